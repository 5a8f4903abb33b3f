/-! why a can can't be mixed -/
def SF (G : Nat → Nat) (f m c : Nat) : Nat := (G (409 + 17 * f + 1 + c) * m + G (409 + 17 * f + 9 + c)) / 100
def stF (G : Nat → Nat) (f c : Nat) : Nat := (G (409 + 17 * f + 1 + c) + G (409 + 17 * f + 9 + c)) / 100
theorem SF_1 {G : Nat → Nat} {f c : Nat} : SF G f 1 c = stF G f c := by
  unfold SF stF
  rw [Nat.mul_one]
def lowN (p : Nat → Bool) : Nat → Int32 → Int32
  | 0, v => v
  | n + 1, v => lowN p n (if p n = true then nI n else v)
theorem low_none {p : Nat → Bool} : ∀ {n : Nat} {v : Int32}, (∀ j, j < n → p j = false) → lowN p n v = v
  | 0, _, _ => rfl
  | n + 1, v, h => by
    show lowN p n (if p n = true then nI n else v) = v
    rw [if_neg (by rw [h n (by omega)]; decide)]
    exact low_none (fun j hj => h j (by omega))
theorem low_some {p : Nat → Bool} {j : Nat} (h1 : p j = true) (h2 : ∀ i, i < j → p i = false) : ∀ {n : Nat} {v : Int32}, j < n → lowN p n v = nI j
  | 0, _, h => absurd h (Nat.not_lt_zero _)
  | n + 1, v, h => by
    show lowN p n (if p n = true then nI n else v) = nI j
    by_cases e : j = n
    · subst e
      rw [if_pos h1]
      exact low_none h2
    · exact low_some h1 h2 (by omega)
theorem low_cong {p q : Nat → Bool} : ∀ {n : Nat} {v : Int32}, (∀ j, j < n → p j = q j) → lowN p n v = lowN q n v
  | 0, _, _ => rfl
  | n + 1, v, h => by
    show lowN p n (if p n = true then nI n else v) = lowN q n (if q n = true then nI n else v)
    rw [h n (by omega)]
    exact low_cong (fun j hj => h j (by omega))
/-- none is lacking, or the lowest one -/
theorem low_cases (p : Nat → Bool) (n : Nat) : ((∀ j, j < n → p j = false) ∧ lowN p n (-1) = -1) ∨ ∃ j, j < n ∧ p j = true ∧ lowN p n (-1) = nI j := by
  by_cases h : ∃ j, j < n ∧ p j = true
  · obtain ⟨j, ⟨hj, hp⟩, hl⟩ := pk_least (fun j => j < n ∧ p j = true) h
    refine Or.inr ⟨j, hj, hp, low_some hp (fun i hi => ?_) hj⟩
    cases hq : p i with
    | false => rfl
    | true => exact absurd ⟨by omega, hq⟩ (hl i hi)
  · have h1 : ∀ j, j < n → p j = false := fun j hj => by
      cases hq : p j with
      | false => rfl
      | true => exact absurd ⟨j, hj, hq⟩ h
    exact Or.inl ⟨h1, low_none h1⟩
theorem SF_mono {G : Nat → Nat} {f m c : Nat} : SF G f m c ≤ SF G f (m + 1) c := by
  unfold SF
  refine Nat.div_le_div_right ?_
  rw [Nat.mul_succ]
  omega
theorem SF_le {G : Nat → Nat} {B : Nat → Nat → Nat → Bool} (h : GI G B) {f m c : Nat} (hf : f < 10) (hc : c < 8) (hm : m ≤ 100) : G (409 + 17 * f + 1 + c) * m + G (409 + 17 * f + 9 + c) ≤ 1000000 ∧ SF G f m c ≤ 10000 := by
  obtain ⟨b1, b2, -⟩ := (h.2.2.2.1 f hf).2 c hc
  have h1 : G (409 + 17 * f + 1 + c) * m ≤ 9999 * 100 := Nat.mul_le_mul b1 hm
  refine ⟨by omega, ?_⟩
  unfold SF
  omega
theorem SF_0 {G : Nat → Nat} {B : Nat → Nat → Nat → Bool} (h : GI G B) {f c : Nat} (hf : f < 10) (hc : c < 8) : SF G f 0 c = 0 := by
  obtain ⟨b1, b2, -⟩ := (h.2.2.2.1 f hf).2 c hc
  unfold SF
  rw [Nat.mul_zero]
  omega
section
variable {N f p : Nat} {M : xM} {r : Nat → Int32} {G : Nat → Nat} {B : Nat → Nat → Nat → Bool}
theorem DS.stepsFor {m c : Nat} (h : DS M 0 r G B) (hf : f < 10) (hc : c < 8) (hm : m ≤ 100) (hp : p = 57 + 3 * f) : F_X4_stepsForCans N p (nI c) (nI m) M = some (M, nI (SF G f m c)) := by
  have hl := (loc_f f hf).2 c hc
  unfold F_X4_stepsForCans
  rw [ck_nI hc (by decide), ck_nI hc (by decide), nI_clamp (by omega), h.m hl.1 (vis_hi (by omega)) (p := p + 1) (by omega), h.m hl.2 (vis_hi (by omega)) (p := p + 2) (by omega), pk_mul, nI_add, show nI (G (409 + 17 * f + 1 + c) * m + G (409 + 17 * f + 9 + c)) / 100 = nI (SF G f m c) from pk_div (d := 100) (by have := (SF_le h.2.2.2.2 hf hc hm).1; omega) (by decide) (by decide)]
theorem DS.stays {m : Nat} (h : DS M 0 r G B) (hN : 20 ≤ N) (hf : f < G 2) (hm : m + 1 ≤ 100) (hp : p = 57 + 3 * f) : F_X3_staysInLimit N 0 p (nI (m + 1)) M = some (M, if sumN (fun c => SF G f (m + 1) c - SF G f m c) (G 0) ≤ G (373 + 6 * G (409 + 17 * f) + 3) then 1 else 0) := by
  have hg := h.2.2.2.2
  have hg0 : G 0 ≤ 8 := hg.1.1
  have hf10 : f < 10 := by have := hg.1; omega
  have m0 := h.n0.1.1
  have hb := (hg.2.2.2.1 f hf10).1 hf
  have hb6 : G (409 + 17 * f) < 6 := by have := hg.1; omega
  have hsum : sumN (fun c => SF G f (m + 1) c - SF G f m c) (G 0) ≤ G 0 * 10000 := sumN_le (fun c hc => by have := (SF_le hg hf10 (c := c) (by omega) hm).2; omega)
  have loop : ∀ n i, i ≤ G 0 → G 0 < n + i → L_X3_staysInLimit_5 N 0 p n (nI (m + 1)) (nI (sumN (fun c => SF G f (m + 1) c - SF G f m c) i)) (nI i) M = some (M, if sumN (fun c => SF G f (m + 1) c - SF G f m c) (G 0) ≤ G (373 + 6 * G (409 + 17 * f) + 3) then 1 else 0) := by
    intro n
    induction n with
    | zero => intro i a1 a2; omega
    | succ n ih =>
      intro i a1 a2
      rw [L_X3_staysInLimit_5, m0]
      by_cases hi : i = G 0
      · have l2 := (hg.2.2.1 _ hb6).2.1
        have l3 : G 0 * 10000 ≤ 80000 := by omega
        rw [if_pos (nI_le (by omega) (by omega)), h.m (loc_f f hf10).1 (vis_hi (by omega)) (p := p) (by omega), ck_nI hb6 (by decide), nI_clamp (by omega), h.m (loc_b _ hb6).2.1 (vis_hi (by omega)) (p := 0 + 45 + 2 * G (409 + 17 * f)) (by omega), hi]
        by_cases hq : sumN (fun c => SF G f (m + 1) c - SF G f m c) (G 0) ≤ G (373 + 6 * G (409 + 17 * f) + 3)
        · rw [if_neg (nI_nlt hq (by omega)), if_pos hq]
        · rw [if_pos (nI_lt (by omega) (by omega)), if_neg hq]
      · rw [if_neg (nI_ge (a := i) (by omega) (by omega)), h.stepsFor hf10 (by omega) hm hp, xbd_some, show nI (m + 1) - 1 = nI m from nI_pred m, show F_X4_stepsForCans N p (nI i) (nI m) (M, nI (SF G f (m + 1) i)).1 = _ from h.stepsFor hf10 (by omega) (by omega) hp, xbd_some]
        dsimp only
        rw [pk_sub SF_mono, nI_add, xl_v, nI_1, xl_v]
        exact ih (i + 1) (by omega) (by omega)
  exact loop N 0 (by omega) (by omega)
def lackF (G : Nat → Nat) (f m : Nat) : Int32 := lowN (fun c => decide (inC G c < SF G f m c)) (G 0) (-1)
theorem inC_le (hg : GI G B) {c : Nat} (hc : c < 8) : inC G c ≤ 6000 := by
  have h9 := hg.2.1 c hc
  have := sumN_le (f := fun j => G (5 + 46 * c + 19 + j)) (b := 500) (n := G (5 + 46 * c + 3)) (fun i hi => (h9.2.2.2 i hi).2.2.1)
  exact Nat.le_trans this (Nat.mul_le_mul_right 500 h9.1)
theorem DS.lack {m : Nat} (h : DS M 0 r G B) (hN : 20 ≤ N) (hf : f < G 2) (hm : m ≤ 100) (hp : p = 57 + 3 * f) : F_X3_firstLacking N 0 p (nI m) M = some (M, lackF G f m) := by
  have hg := h.2.2.2.2
  have hg0 : G 0 ≤ 8 := hg.1.1
  have hf10 : f < 10 := by have := hg.1; omega
  have m0 := h.n0.1.1
  have loop : ∀ n i, i ≤ G 0 → G 0 < n + i → (∀ j, j < i → decide (inC G j < SF G f m j) = false) → L_X3_firstLacking_2 N 0 p n (nI m) (nI i) M = some (M, lackF G f m) := by
    intro n
    induction n with
    | zero => intro i a1 a2; omega
    | succ n ih =>
      intro i a1 a2 a3
      rw [L_X3_firstLacking_2, m0]
      by_cases hi : i = G 0
      · rw [if_pos (nI_le (by omega) (by omega))]
        unfold lackF
        rw [low_none (fun j hj => a3 j (by omega))]
      · rw [if_neg (nI_ge (a := i) (by omega) (by omega)), h.stepsFor hf10 (by omega) hm hp, xbd_some, ck_nI (by omega) (by decide), nI_clamp (by omega), show F_X2_stepsInside N (0 + 5 + 5 * i) (M, nI (SF G f m i)).1 = _ from h.steps hN (c := i) (by omega) (by omega), xbd_some]
        dsimp only
        have l1 := (SF_le hg hf10 (c := i) (by omega) hm).2
        have l2 := inC_le hg (c := i) (by omega)
        by_cases hq : SF G f m i ≤ inC G i
        · rw [if_pos (nI_le hq (by omega)), nI_1, xl_v]
          refine ih (i + 1) (by omega) (by omega) (fun j hj => ?_)
          by_cases e : j = i
          · subst e; exact decide_eq_false (by omega)
          · exact a3 j (by omega)
        · rw [if_neg (nI_ge (by omega) (by omega))]
          unfold lackF
          rw [low_some (p := fun c => decide (inC G c < SF G f m c)) (decide_eq_true (show inC G i < SF G f m i by omega)) a3 (by omega)]
  exact loop N 0 (by omega) (by omega) (fun j hj => absurd hj (Nat.not_lt_zero _))
def whyF (G : Nat → Nat) (f : Nat) : Nat := if G 3 = 20 then 2 else if G (373 + 6 * G (409 + 17 * f) + 4) = 0 then 3 else if sumN (stF G f) (G 0) ≤ G (373 + 6 * G (409 + 17 * f) + 3) then (if lackF G f 1 = -1 then 0 else 5) else 4
theorem DS.why (h : DS M 0 r G B) (hN : 20 ≤ N) (hf : f < G 2) (hp : p = 57 + 3 * f) : F_X3_whyNoMix N 0 p M = some (M, nI (whyF G f)) := by
  have hg := h.2.2.2.2
  have hf10 : f < 10 := by have := hg.1; omega
  have hg3 : G 3 ≤ 20 := hg.1.2.2.2.1
  have m3 := h.n0.2.2.2.1.1
  have hb := (hg.2.2.2.1 f hf10).1 hf
  have hb6 : G (409 + 17 * f) < 6 := by have := hg.1; omega
  have hst := (hg.2.2.1 _ hb6).2.2.1
  unfold F_X3_whyNoMix whyF
  rw [m3]
  by_cases q1 : G 3 = 20
  · rw [if_neg (show ¬ nI (G 3) < (20 : Int32) from by rw [q1]; decide), if_pos q1]
    rfl
  · rw [if_pos (show nI (G 3) < (20 : Int32) from nI_lt (b := 20) (by omega) (by omega)), if_neg q1, h.m (loc_f f hf10).1 (vis_hi (by omega)) (p := p) (by omega), ck_nI hb6 (by decide), nI_clamp (by omega), h.m (loc_b _ hb6).2.2 (vis_hi (by omega)) (p := 0 + 45 + 2 * G (409 + 17 * f)) (by omega)]
    by_cases q2 : G (373 + 6 * G (409 + 17 * f) + 4) = 0
    · rw [if_pos (show nI (G (373 + 6 * G (409 + 17 * f) + 4)) = (0 : Int32) from by rw [q2]; rfl), if_pos q2]
      rfl
    · rw [if_neg (nI_ne0 (by omega) (by omega)), if_neg q2, show F_X3_staysInLimit N 0 p 1 M = _ from h.stays (m := 0) hN hf (by omega) hp, xbd_some]
      have e1 : sumN (fun c => SF G f (0 + 1) c - SF G f 0 c) (G 0) = sumN (stF G f) (G 0) := sumN_cong (fun c hc => by
        rw [SF_0 hg hf10 (by have := hg.1; omega), Nat.sub_zero]
        exact SF_1)
      rw [e1]
      by_cases q3 : sumN (stF G f) (G 0) ≤ G (373 + 6 * G (409 + 17 * f) + 3)
      · rw [if_pos q3, if_pos q3, if_neg (show ¬ (M, (1 : Int32)).2 = 0 from by show ¬ (1 : Int32) = 0; decide), show F_X3_firstLacking N 0 p 1 (M, (1 : Int32)).1 = _ from h.lack (m := 1) hN hf (by omega) hp, xbd_some]
        by_cases q4 : lackF G f 1 = -1
        · rw [if_pos q4, if_pos q4]
          rfl
        · rw [if_neg q4, if_neg q4]
          rfl
      · rw [if_neg q3, if_neg q3, if_pos (show (M, (0 : Int32)).2 = 0 from rfl)]
        rfl
end
/-- the reference's reason; it needs its own row alone -/
theorem stepsOf_ok {N f c : Nat} {R : xM} {G : Nat → Nat} {B : Nat → Nat → Nat → Bool} (hR : ∀ i, i < 1460 → R.1 1 i = nI (G i)) (hg : GI G B) (hf : f < 10) (hc : c < 8) : F_X10_stepsOf N (nI f) (nI c) R = some (R, nI (stF G f c)) := by
  unfold F_X10_stepsOf
  rw [show (409 : Int32) + 17 * nI f = nI (409 + 17 * f) from by show nI 409 + nI 17 * nI f = _; rw [pk_mul, nI_add], xl_v, show nI (409 + 17 * f) + 1 + nI c = nI (409 + 17 * f + 1 + c) from by rw [nI_1, nI_add], show nI (409 + 17 * f) + 9 + nI c = nI (409 + 17 * f + 9 + c) from by show nI (409 + 17 * f) + nI 9 + nI c = _; rw [nI_add, nI_add], ck_nI (by omega) (by decide), ck_nI (by omega) (by decide), nI_clamp (by omega), nI_clamp (by omega), hR _ (by omega), hR _ (by omega), nI_add]
  obtain ⟨b1, b2, -⟩ := (hg.2.2.2.1 f hf).2 c hc
  exact congrArg (fun z => some (R, z)) (pk_div (d := 100) (by omega) (by decide) (by decide))
theorem stF_le {G : Nat → Nat} {B : Nat → Nat → Nat → Bool} (h : GI G B) {f c : Nat} (hf : f < 10) (hc : c < 8) : stF G f c ≤ 100 := by
  obtain ⟨b1, b2, -⟩ := (h.2.2.2.1 f hf).2 c hc
  unfold stF
  omega
theorem hinders_ok {N f : Nat} {R : xM} {G : Nat → Nat} {B : Nat → Nat → Nat → Bool} (hN : 30 ≤ N) (hR : ∀ i, i < 1460 → R.1 1 i = nI (G i)) (hg : GI G B) (hf : f < G 2) : ∃ R1, F_X10_hinders N (nI f) R = some (R1, nI (whyF G f)) ∧ R1.2 = R.2 ∧ (∀ p, p ≠ 0 → R1.1 p = R.1 p) ∧ (∀ s, s ≠ 15 → R1.1 0 s = R.1 0 s) ∧ (whyF G f = 5 → R1.1 0 15 = lackF G f 1) := by
  have hf10 : f < 10 := by have := hg.1; omega
  have hg0 : G 0 ≤ 8 := hg.1.1
  have hg3 : G 3 ≤ 20 := hg.1.2.2.2.1
  have hb := (hg.2.2.2.1 f hf10).1 hf
  have hb6 : G (409 + 17 * f) < 6 := by have := hg.1; omega
  have hst := (hg.2.2.1 _ hb6).2.2.1
  have hli := (hg.2.2.1 _ hb6).2.1
  have hsum : sumN (stF G f) (G 0) ≤ G 0 * 100 := sumN_le (fun c hc => stF_le hg hf10 (by omega))
  have elack : lackF G f 1 = lowN (fun c => decide (inC G c < stF G f c)) (G 0) (-1) := low_cong (fun c hc => by rw [SF_1])
  have loop : ∀ n m t (w : Int32), m < n → m ≤ G 0 → t + sumN (stF G f) m = sumN (stF G f) (G 0) → lowN (fun c => decide (inC G c < stF G f c)) m w = lackF G f 1 → ∃ R1, L_X10_hinders_53 N n (nI f) (nI (G (409 + 17 * f))) (nI t) w (nI m - 1) R = some (R1, nI (if sumN (stF G f) (G 0) ≤ G (373 + 6 * G (409 + 17 * f) + 3) then (if lackF G f 1 = -1 then 0 else 5) else 4)) ∧ R1.2 = R.2 ∧ (∀ p, p ≠ 0 → R1.1 p = R.1 p) ∧ (∀ s, s ≠ 15 → R1.1 0 s = R.1 0 s) ∧ ((if sumN (stF G f) (G 0) ≤ G (373 + 6 * G (409 + 17 * f) + 3) then (if lackF G f 1 = -1 then 0 else 5) else 4) = 5 → R1.1 0 15 = lackF G f 1) := by
    intro n
    induction n with
    | zero => intro m t w a1; omega
    | succ n ih =>
      intro m t w a1 a2 a3 a4
      rw [L_X10_hinders_53]
      cases m with
      | zero =>
        have a3 : t = sumN (stF G f) (G 0) := a3
        have a4 : w = lackF G f 1 := a4
        subst a3
        subst a4
        rw [if_pos (by decide), show F_X10_baseAt N (nI (G (409 + 17 * f))) 3 R = _ from rdB (k := 3) hR hb6 (by omega), xbd_some]
        dsimp only
        by_cases q3 : sumN (stF G f) (G 0) ≤ G (373 + 6 * G (409 + 17 * f) + 3)
        · rw [if_pos (nI_le q3 (by omega)), xl_v, if_pos q3]
          by_cases q4 : lackF G f 1 = -1
          · rw [if_pos q4, if_pos q4]
            exact ⟨_, rfl, rfl, fun p hp => xS_ne hp, fun s hs => xS_f hs, fun e => absurd e (by decide)⟩
          · rw [if_neg q4, if_neg q4]
            exact ⟨_, rfl, rfl, fun p hp => xS_ne hp, fun s hs => xS_f hs, fun _ => xS_in⟩
        · rw [if_neg (nI_ge (by omega) (by omega)), if_neg q3]
          exact ⟨R, rfl, rfl, fun _ _ => rfl, fun _ _ => rfl, fun e => absurd e (by decide)⟩
      | succ m =>
        rw [nI_pred, if_neg (nI_pos (by omega)), stepsOf_ok hR hg hf10 (by omega), xbd_some, nI_add, xl_v, inCanister_ok (by omega) hR (by omega) (hg.2.1 m (by omega)).1, xbd_some, stepsOf_ok hR hg hf10 (by omega), xbd_some]
        dsimp only
        have l1 := stF_le hg hf10 (c := m) (by omega)
        have l2 := inC_le hg (c := m) (by omega)
        have a3' : t + stF G f m + sumN (stF G f) m = sumN (stF G f) (G 0) := by
          have : sumN (stF G f) (m + 1) = sumN (stF G f) m + stF G f m := rfl
          omega
        have a4 : lowN (fun c => decide (inC G c < stF G f c)) m (if decide (inC G m < stF G f m) = true then nI m else w) = lackF G f 1 := a4
        by_cases hq : stF G f m ≤ inC G m
        · rw [if_pos (nI_le hq (by omega))]
          unfold L_X10_hinders_91
          rw [i_m1, xl_v]
          rw [if_neg (by rw [decide_eq_true_iff]; omega)] at a4
          exact ih m _ w (by omega) (by omega) a3' a4
        · rw [if_neg (nI_ge (by omega) (by omega))]
          unfold L_X10_hinders_91
          rw [i_m1, xl_v]
          rw [if_pos (decide_eq_true (by omega))] at a4
          exact ih m _ (nI m) (by omega) (by omega) a3' a4
  unfold F_X10_hinders
  rw [show (409 : Int32) + 17 * nI f = nI (409 + 17 * f) from by show nI 409 + nI 17 * nI f = _; rw [pk_mul, nI_add], ck_nI (by omega) (by decide), nI_clamp (by omega), hR _ (by omega), xl_v, show R.1 1 (3 : Int32).toNatClampNeg = nI (G 3) from hR 3 (by omega)]
  unfold whyF
  by_cases q1 : G 3 = 20
  · rw [if_pos (show nI (G 3) = (20 : Int32) from by rw [q1]; rfl), if_pos q1]
    exact ⟨R, rfl, rfl, fun _ _ => rfl, fun _ _ => rfl, fun e => absurd e (by decide)⟩
  · rw [if_neg (show ¬ nI (G 3) = (20 : Int32) from fun e => q1 ((nI_eq (b := 20) (by omega) (by omega)).mp e)), if_neg q1, show F_X10_baseAt N (nI (G (409 + 17 * f))) 4 R = _ from rdB (k := 4) hR hb6 (by omega), xbd_some]
    dsimp only
    by_cases q2 : G (373 + 6 * G (409 + 17 * f) + 4) = 0
    · rw [if_pos (show nI (G (373 + 6 * G (409 + 17 * f) + 4)) = (0 : Int32) from by rw [q2]; rfl), if_pos q2]
      exact ⟨R, rfl, rfl, fun _ _ => rfl, fun _ _ => rfl, fun e => absurd e (by decide)⟩
    · rw [if_neg (nI_ne0 (by omega) (by omega)), if_neg q2, show R.1 1 (0 : Int32).toNatClampNeg = nI (G 0) from hR 0 (by omega), xl_v]
      exact loop N (G 0) 0 (-1) (by omega) (Nat.le_refl _) (Nat.zero_add _) elack.symm
