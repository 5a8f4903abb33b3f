/-! labels -/
def lotsL (B : Nat → Nat → Nat → Bool) (k c : Nat) : Nat → List Nat
  | 0 => []
  | q + 1 => lotsL B k c q ++ (if B k c q = true then 58 :: dig q else [])
def oneL (G : Nat → Nat) (B : Nat → Nat → Nat → Bool) (k c : Nat) : List Nat := if G (579 + 44 * k + 2 + c) = 0 then [] else (44 :: dig c) ++ ((61 :: dig (G (579 + 44 * k + 2 + c))) ++ lotsL B k c 100)
def colL (G : Nat → Nat) (B : Nat → Nat → Nat → Bool) (k : Nat) : Nat → List Nat
  | 0 => []
  | c + 1 => colL G B k c ++ oneL G B k c
def tailL (G : Nat → Nat) (k : Nat) : List Nat := if G (579 + 44 * k + 10) = 0 then [] else 43 :: dig (G (579 + 44 * k + 11))
def labL (G : Nat → Nat) (B : Nat → Nat → Nat → Bool) (k : Nat) : List Nat := (98 :: dig (G (579 + 44 * k + 1))) ++ colL G B k 8 ++ tailL G k
theorem lotsL_len {B : Nat → Nat → Nat → Bool} {k c : Nat} : ∀ q, q ≤ 100 → (lotsL B k c q).length ≤ 3 * cntN (fun q => B k c q) q
  | 0, _ => Nat.le_refl _
  | q + 1, h => by
    have ih := lotsL_len (B := B) (k := k) (c := c) q (by omega)
    have d := (dig_len (n := q)).2.2 (by omega)
    show (lotsL B k c q ++ (if B k c q = true then 58 :: dig q else [])).length ≤ 3 * (cntN (fun q => B k c q) q + (if B k c q = true then 1 else 0))
    rw [List.length_append]
    by_cases hb : B k c q = true
    · rw [if_pos hb, if_pos hb, List.length_cons]
      omega
    · rw [if_neg hb, if_neg hb]
      show _ + 0 ≤ _
      omega
theorem lotsL_mono {B : Nat → Nat → Nat → Bool} {k c q : Nat} : ∀ {r : Nat}, q ≤ r → (lotsL B k c q).length ≤ (lotsL B k c r).length
  | 0, h => by rw [show q = 0 by omega]; exact Nat.le_refl _
  | r + 1, h => by
    by_cases e : q = r + 1
    · rw [e]; exact Nat.le_refl _
    · have := lotsL_mono (B := B) (k := k) (c := c) (q := q) (r := r) (by omega)
      show _ ≤ (lotsL B k c r ++ _).length
      rw [List.length_append]
      omega
theorem colL_mono {G : Nat → Nat} {B : Nat → Nat → Nat → Bool} {k c : Nat} : ∀ {d : Nat}, c ≤ d → (colL G B k c).length ≤ (colL G B k d).length
  | 0, h => by rw [show c = 0 by omega]; exact Nat.le_refl _
  | d + 1, h => by
    by_cases e : c = d + 1
    · rw [e]; exact Nat.le_refl _
    · have := colL_mono (G := G) (B := B) (k := k) (c := c) (d := d) (by omega)
      show _ ≤ (colL G B k d ++ _).length
      rw [List.length_append]
      omega
theorem oneL_len {G : Nat → Nat} {B : Nat → Nat → Nat → Bool} {k c : Nat} (hc : c < 8) (h : cntN (fun q => B k c q) 100 ≤ G (579 + 44 * k + 2 + c)) : (oneL G B k c).length ≤ 6 + 3 * G (579 + 44 * k + 2 + c) := by
  unfold oneL
  by_cases h0 : G (579 + 44 * k + 2 + c) = 0
  · rw [if_pos h0]
    exact Nat.zero_le _
  · have d1 := (dig_len (n := c)).2.1 (by omega)
    have d2 := (dig_len (n := G (579 + 44 * k + 2 + c))).1
    have d3 := lotsL_len (B := B) (k := k) (c := c) 100 (Nat.le_refl _)
    rw [if_neg h0, List.length_append, List.length_append, List.length_cons, List.length_cons]
    omega
theorem colL_len {G : Nat → Nat} {B : Nat → Nat → Nat → Bool} {k : Nat} (h : ∀ c, c < 8 → cntN (fun q => B k c q) 100 ≤ G (579 + 44 * k + 2 + c)) : ∀ n, n ≤ 8 → (colL G B k n).length ≤ 6 * n + 3 * sumN (fun c => G (579 + 44 * k + 2 + c)) n
  | 0, _ => Nat.zero_le _
  | n + 1, hn => by
    have ih := colL_len h n (by omega)
    have h1 := oneL_len (G := G) (B := B) (k := k) (c := n) (by omega) (h n (by omega))
    show (colL G B k n ++ oneL G B k n).length ≤ 6 * (n + 1) + 3 * (sumN (fun c => G (579 + 44 * k + 2 + c)) n + G (579 + 44 * k + 2 + n))
    rw [List.length_append]
    omega
theorem labL_len {G : Nat → Nat} {B : Nat → Nat → Nat → Bool} (hg : GI G B) {k : Nat} (hk : k < G 3) : (labL G B k).length ≤ 654 ∧ 2 + (colL G B k 8).length + (tailL G k).length ≤ 654 ∧ (labL G B k).length = 2 + (colL G B k 8).length + (tailL G k).length := by
  have hk20 : k < 20 := by have := hg.1; omega
  obtain ⟨q1, q2, q3, q4⟩ := (hg.2.2.2.2 k hk20).1 hk
  have h1 := colL_len (G := G) (B := B) (k := k) (fun c hc => ((hg.2.2.2.2 k hk20).2.1 c hc).1) 8 (Nat.le_refl _)
  have h2 : sumN (fun c => G (579 + 44 * k + 2 + c)) 8 ≤ 200 := (hg.step200 (c := 0) hk (by omega)).2
  have h3 : (tailL G k).length ≤ 4 := by
    unfold tailL
    split
    · exact Nat.zero_le _
    · have := (dig_len (n := G (579 + 44 * k + 11))).1
      rw [List.length_cons]
      omega
  have h4 := (dig_len (n := G (579 + 44 * k + 1))).2.1 (by have := hg.1; omega)
  have h5 : (labL G B k).length = 2 + (colL G B k 8).length + (tailL G k).length := by
    unfold labL
    rw [List.length_append, List.length_append, List.length_cons, h4]
  omega
theorem WM.bits {M0 M : xM} {l : List Nat} (h : WM M0 M l) (p c q : Nat) : bitsM M p c q = bitsM M0 p c q := by
  unfold bitsM
  rw [h.1.1]
/-- the class -/
theorem lotsM {N p k c : Nat} {M0 : xM} {B : Nat → Nat → Nat → Bool} {P : List Nat} (hN : 200 ≤ N) (hc : c < 8) (hB : ∀ q, q < 100 → bitsM M0 p c q = B k c q) (hP : P.length + (lotsL B k c 100).length ≤ 654) : ∀ n q (M : xM), q ≤ 100 → 100 < n + q → WM M0 M (P ++ lotsL B k c q) → ∃ M1, L_X7_putColorant_29 N p n (nI c) (nI q) M = some (M1, 0) ∧ WM M0 M1 (P ++ lotsL B k c 100) := by
  intro n
  induction n with
  | zero => intro q M a1 a2; omega
  | succ n ih =>
    intro q M a1 a2 h
    rw [L_X7_putColorant_29]
    by_cases hq : q = 100
    · subst hq
      rw [if_pos (show (99 : Int32) < nI 100 from by decide)]
      exact ⟨M, rfl, h⟩
    · have hm := lotsL_mono (B := B) (k := k) (c := c) (q := q + 1) (r := 100) (by omega)
      have e : lotsL B k c (q + 1) = lotsL B k c q ++ (if B k c q = true then 58 :: dig q else []) := rfl
      rw [if_neg (show ¬ (99 : Int32) < nI q from nI_nlt (b := q) (a := 99) (by omega) (by omega)), holdsLot_ok hc (by omega), h.bits, hB q (by omega), xbd_some]
      by_cases hb : B k c q = true
      · rw [if_pos hb] at e
        have el : (lotsL B k c (q + 1)).length = (lotsL B k c q).length + (1 + (dig q).length) := by rw [e, List.length_append, List.length_cons]; omega
        have hl : (P ++ lotsL B k c q).length = P.length + (lotsL B k c q).length := List.length_append
        obtain ⟨M1, e1, e2⟩ := putM (N := N) (x := 58) h (by omega) (by decide)
        obtain ⟨M2, e3, e4⟩ := numM (N := N) (n := q) (by omega) (by omega) e2 (by rw [List.length_append, hl]; show P.length + (lotsL B k c q).length + 1 + (dig q).length ≤ 654; omega)
        rw [if_pos hb, if_neg (show ¬ (M, (1 : Int32)).2 = 0 from by show ¬ (1 : Int32) = 0; decide), show F_X7_put N 58 (M, (1 : Int32)).1 = some (M1, 0) from e1, xbd_some, e3, xbd_some]
        unfold L_X7_putColorant_55
        rw [nI_1, xl_v]
        refine ih (q + 1) M2 (by omega) (by omega) ?_
        rw [e, ← List.append_assoc, show P ++ lotsL B k c q ++ 58 :: dig q = P ++ lotsL B k c q ++ [58] ++ dig q from by rw [List.append_assoc _ [58]]; rfl]
        exact e4
      · rw [if_neg hb] at e
        rw [List.append_nil] at e
        rw [if_neg hb, if_pos (show (M, (0 : Int32)).2 = 0 from rfl)]
        unfold L_X7_putColorant_55
        rw [nI_1, xl_v]
        refine ih (q + 1) M (by omega) (by omega) ?_
        rw [e]
        exact h
theorem lotsR {N k c : Nat} {R0 : xM} {B : Nat → Nat → Nat → Bool} {P : List Nat} {K : Int32 → Int32 → xM → Option xR} (hN : 200 ≤ N) (hk : k < 20) (hc : c < 8) (hB : ∀ q, q < 100 → bitsR (R0.1 1) k c q = B k c q) (hP : P.length + (lotsL B k c 100).length ≤ 654) : ∀ n q (R : xM), q ≤ 100 → 100 < n + q → WR R0 R (P ++ lotsL B k c q) → ∃ R1, L_X10_writes_75 N K n (nI k) (nI c) (nI q) R = K (nI k) (nI c) R1 ∧ WR R0 R1 (P ++ lotsL B k c 100) := by
  intro n
  induction n with
  | zero => intro q M a1 a2; omega
  | succ n ih =>
    intro q R a1 a2 h
    rw [L_X10_writes_75]
    by_cases hq : q = 100
    · subst hq
      rw [if_pos (show (100 : Int32) ≤ nI 100 from by decide)]
      exact ⟨R, rfl, h⟩
    · have hm := lotsL_mono (B := B) (k := k) (c := c) (q := q + 1) (r := 100) (by omega)
      have e : lotsL B k c (q + 1) = lotsL B k c q ++ (if B k c q = true then 58 :: dig q else []) := rfl
      have hb2 : bitsR (R.1 1) k c q = B k c q := by rw [h.1.1 1 (by omega) (by omega)]; exact hB q (by omega)
      rw [if_neg (show ¬ (100 : Int32) ≤ nI q from nI_ge (b := 100) (by omega) (by omega)), has_ok hk hc (by omega), hb2, xbd_some]
      by_cases hb : B k c q = true
      · rw [if_pos hb] at e
        have el : (lotsL B k c (q + 1)).length = (lotsL B k c q).length + (1 + (dig q).length) := by rw [e, List.length_append, List.length_cons]; omega
        have hl : (P ++ lotsL B k c q).length = P.length + (lotsL B k c q).length := List.length_append
        obtain ⟨M1, e1, e2⟩ := putR (N := N) (x := 58) h (by omega) (by decide)
        obtain ⟨M2, e3, e4⟩ := numR (N := N) (n := q) (by omega) (by omega) e2 (by rw [List.length_append, hl]; show P.length + (lotsL B k c q).length + 1 + (dig q).length ≤ 654; omega)
        rw [if_pos hb, if_neg (show ¬ (R, (1 : Int32)).2 = 0 from by show ¬ (1 : Int32) = 0; decide), show F_X10_writesLetter N 58 (R, (1 : Int32)).1 = some (M1, 0) from e1, xbd_some, e3, xbd_some]
        unfold L_X10_writes_102
        rw [nI_1, xl_v]
        refine ih (q + 1) M2 (by omega) (by omega) ?_
        rw [e, ← List.append_assoc, show P ++ lotsL B k c q ++ 58 :: dig q = P ++ lotsL B k c q ++ [58] ++ dig q from by rw [List.append_assoc _ [58]]; rfl]
        exact e4
      · rw [if_neg hb] at e
        rw [List.append_nil] at e
        rw [if_neg hb, if_pos (show (R, (0 : Int32)).2 = 0 from rfl)]
        unfold L_X10_writes_102
        rw [nI_1, xl_v]
        refine ih (q + 1) R (by omega) (by omega) ?_
        rw [e]
        exact h
theorem WM_0 {M : xM} : WM M (xS M 1479 (upd (M.1 1479) 1 0)) [] := ⟨⟨rfl, fun k k1 _ => xS_ne k1⟩, xS_in, fun j x hx => by cases hx⟩
theorem WR_0 {R : xM} : WR R (xS R 0 (upd (R.1 0) 19 0)) [] := ⟨⟨fun p p0 _ => xS_ne p0, fun s hs => xS_f hs⟩, xS_in, fun j x hx => by cases hx⟩
theorem writeM {N k p : Nat} {M0 : xM} {r : Nat → Int32} {G : Nat → Nat} {B : Nat → Nat → Nat → Bool} (hd : DS M0 0 r G B) (hN : 300 ≤ N) (hk : k < G 3) (hp : p = 87 + 3 * k) : ∃ M1, F_X7_write N p M0 = some (M1, 0) ∧ WM M0 M1 (labL G B k) := by
  have hg := hd.2.2.2.2
  have hk20 : k < 20 := by have := hg.1; omega
  obtain ⟨q1, q2, q3, q4⟩ := (hg.2.2.2.2 k hk20).1 hk
  have hb6 : G (579 + 44 * k + 1) < 6 := by have := hg.1; omega
  have lk := loc_k k hk20
  obtain ⟨t1, t2, t3⟩ := labL_len hg hk
  have d1 := (dig_len (n := G (579 + 44 * k + 1))).2.1 (by omega)
  have v0 : ∀ s, M0.1 p s = M0.1 (0 + (87 + 3 * k)) s := fun s => by rw [hp, Nat.zero_add]
  have hs200 := fun c (hc : c < 8) => (hg.step200 (c := c) hk hc).1
  obtain ⟨M2, e1, e2⟩ := putM (N := N) (x := 98) (WM_0 (M := M0)) (by decide) (by decide)
  have w1 : M2.1 p 1 = nI (G (579 + 44 * k + 1)) := by rw [e2.1.2 p (by omega) (by omega)]; exact hd.m lk.2.1 (vis_hi (by omega)) (by omega)
  obtain ⟨M3, e3, e4⟩ := numM (N := N) (n := G (579 + 44 * k + 1)) (by omega) (by omega) e2 (by rw [d1]; decide)
  have e4 : WM M0 M3 ((98 :: dig (G (579 + 44 * k + 1))) ++ colL G B k 0) := by
    show WM M0 M3 ((98 :: dig (G (579 + 44 * k + 1))) ++ [])
    rw [List.append_nil]
    exact e4
  have hpl : (98 :: dig (G (579 + 44 * k + 1))).length = 2 := by rw [List.length_cons, d1]
  have loop : ∀ n c (M : xM), c ≤ 8 → 8 < n + c → WM M0 M ((98 :: dig (G (579 + 44 * k + 1))) ++ colL G B k c) → ∃ M1, L_X7_write_21 N p n (nI c) M = some (M1, 0) ∧ WM M0 M1 (labL G B k) := by
    intro n
    induction n with
    | zero => intro c M a1 a2; omega
    | succ n ih =>
      intro c M a1 a2 h
      rw [L_X7_write_21]
      by_cases hc : c = 8
      · subst hc
        have m2 : M.1 p 2 = nI (G (579 + 44 * k + 10)) := by rw [h.1.2 p (by omega) (by omega)]; exact hd.m lk.2.2.1 (vis_hi (by omega)) (by omega)
        have h11 := (hg.2.2.2.2 k hk20).2.2.2.1
        have h10 := (hg.2.2.2.2 k hk20).2.2.1
        have ha := (hg.step200 (c := 0) hk (by omega)).2
        rw [if_pos (show (8 : Int32) ≤ nI 8 from by decide), m2]
        by_cases h0 : G (579 + 44 * k + 10) = 0
        · rw [if_pos (show nI (G (579 + 44 * k + 10)) ≤ (0 : Int32) from by rw [h0]; decide)]
          refine ⟨M, rfl, ?_⟩
          unfold labL tailL
          rw [if_pos h0, List.append_nil]
          exact h
        · have et : tailL G k = 43 :: dig (G (579 + 44 * k + 11)) := if_neg h0
          have etl : (tailL G k).length = 1 + (dig (G (579 + 44 * k + 11))).length := by rw [et, List.length_cons]; omega
          have hl : ((98 :: dig (G (579 + 44 * k + 1))) ++ colL G B k 8).length = 2 + (colL G B k 8).length := by rw [List.length_append, hpl]
          obtain ⟨M4, f1, f2⟩ := putM (N := N) (x := 43) h (by omega) (by decide)
          have m3 : M4.1 p 3 = nI (G (579 + 44 * k + 11)) := by rw [f2.1.2 p (by omega) (by omega)]; exact hd.m lk.2.2.2.1 (vis_hi (by omega)) (by omega)
          obtain ⟨M5, f3, f4⟩ := numM (N := N) (n := G (579 + 44 * k + 11)) (by omega) (by omega) f2 (by rw [List.length_append, hl]; show 2 + (colL G B k 8).length + 1 + (dig (G (579 + 44 * k + 11))).length ≤ 654; omega)
          rw [if_neg (nI_nle (by omega) (by omega)), show F_X7_put N 43 M = some (M4, 0) from f1, xbd_some]
          dsimp only
          rw [m3, f3, xbd_some]
          refine ⟨M5, rfl, ?_⟩
          unfold labL
          rw [et, show (98 :: dig (G (579 + 44 * k + 1))) ++ colL G B k 8 ++ 43 :: dig (G (579 + 44 * k + 11)) = (98 :: dig (G (579 + 44 * k + 1))) ++ colL G B k 8 ++ [43] ++ dig (G (579 + 44 * k + 11)) from by rw [List.append_assoc _ [43]]; rfl]
          exact f4
      · have hc8 : c < 8 := by omega
        have ms : ∀ {M : xM} {l : List Nat}, WM M0 M l → M.1 (p + 1) c = nI (G (579 + 44 * k + 2 + c)) := fun {M l} h => by rw [h.1.2 (p + 1) (by omega) (by omega)]; exact hd.m (lk.2.2.2.2 c hc8) (vis_hi (by omega)) (by omega)
        have e : colL G B k (c + 1) = colL G B k c ++ oneL G B k c := rfl
        have hm := colL_mono (G := G) (B := B) (k := k) (c := c + 1) (d := 8) (by omega)
        have s200 := hs200 c hc8
        rw [if_neg (show ¬ (8 : Int32) ≤ nI c from nI_ge (b := 8) hc8 (by omega)), ck_nI hc8 (by decide), nI_clamp (by omega), ms h]
        by_cases h0 : G (579 + 44 * k + 2 + c) = 0
        · rw [if_pos (show nI (G (579 + 44 * k + 2 + c)) ≤ (0 : Int32) from by rw [h0]; decide)]
          unfold L_X7_write_42
          rw [nI_1, xl_v]
          refine ih (c + 1) M (by omega) (by omega) ?_
          rw [e, show oneL G B k c = [] from if_pos h0, List.append_nil]
          exact h
        · have eo : oneL G B k c = (44 :: dig c) ++ ((61 :: dig (G (579 + 44 * k + 2 + c))) ++ lotsL B k c 100) := if_neg h0
          have eol : (oneL G B k c).length = 1 + (dig c).length + (1 + (dig (G (579 + 44 * k + 2 + c))).length) + (lotsL B k c 100).length := by rw [eo, List.length_append, List.length_append, List.length_cons, List.length_cons]; omega
          have el : (colL G B k (c + 1)).length = (colL G B k c).length + (oneL G B k c).length := by rw [e, List.length_append]
          obtain ⟨P, hP⟩ : ∃ P, P = (98 :: dig (G (579 + 44 * k + 1))) ++ colL G B k c := ⟨_, rfl⟩
          have hPl : P.length = 2 + (colL G B k c).length := by rw [hP, List.length_append, hpl]
          rw [← hP] at h
          obtain ⟨M4, f1, f2⟩ := putM (N := N) (x := 44) h (by omega) (by decide)
          obtain ⟨M5, f3, f4⟩ := numM (N := N) (n := c) (by omega) (by omega) f2 (by rw [List.length_append]; show P.length + 1 + _ ≤ 654; omega)
          obtain ⟨M6, f5, f6⟩ := putM (N := N) (x := 61) f4 (by rw [List.length_append, List.length_append]; show P.length + 1 + (dig c).length + 1 ≤ 654; omega) (by decide)
          obtain ⟨M7, f7, f8⟩ := numM (N := N) (n := G (579 + 44 * k + 2 + c)) (by omega) (by omega) f6 (by rw [List.length_append, List.length_append, List.length_append]; show P.length + 1 + (dig c).length + 1 + _ ≤ 654; omega)
          have eP : P ++ [44] ++ dig c ++ [61] ++ dig (G (579 + 44 * k + 2 + c)) = P ++ ((44 :: dig c) ++ (61 :: dig (G (579 + 44 * k + 2 + c)))) := by
            rw [List.append_assoc _ [61], List.append_assoc _ (dig c), List.append_assoc P [44]]
            rfl
          rw [eP] at f8
          obtain ⟨M8, f9, f10⟩ := lotsM (N := N) (p := p) (k := k) (c := c) (B := B) (P := P ++ ((44 :: dig c) ++ (61 :: dig (G (579 + 44 * k + 2 + c))))) (M0 := M0) (by omega) hc8 (fun q hq => (hd.bits hk20 hc8 hq hp).1) (by rw [List.length_append, List.length_append, List.length_cons, List.length_cons]; omega) N 0 M7 (by omega) (by omega) (by show WM M0 M7 (_ ++ []); rw [List.append_nil]; exact f8)
          have fc : F_X7_putColorant N p (nI c) M = some (M8, 0) := by
            unfold F_X7_putColorant
            rw [show F_X7_put N 44 M = some (M4, 0) from f1, xbd_some, f3, xbd_some, show F_X7_put N 61 (M5, (0 : Int32)).1 = some (M6, 0) from f5, xbd_some, ck_nI hc8 (by decide), nI_clamp (by omega)]
            dsimp only
            rw [ms f6, f7, xbd_some]
            exact f9
          rw [if_neg (nI_nle (by omega) (by omega)), fc, xbd_some]
          unfold L_X7_write_42
          rw [nI_1, xl_v]
          refine ih (c + 1) M8 (by omega) (by omega) ?_
          rw [e, eo, ← List.append_assoc, ← hP]
          rw [show P ++ ((44 :: dig c) ++ ((61 :: dig (G (579 + 44 * k + 2 + c))) ++ lotsL B k c 100)) = P ++ ((44 :: dig c) ++ (61 :: dig (G (579 + 44 * k + 2 + c)))) ++ lotsL B k c 100 from by rw [List.append_assoc P, List.append_assoc (44 :: dig c)]]
          exact f10
  obtain ⟨M1, z1, z2⟩ := loop N 0 M3 (by omega) (by omega) e4
  refine ⟨M1, ?_, z2⟩
  unfold F_X7_write
  rw [xl_v, show F_X7_put N 98 (xS M0 1479 (upd (M0.1 1479) 1 0)) = some (M2, 0) from e1, xbd_some]
  dsimp only
  rw [w1, e3, xbd_some]
  exact z1
theorem writeR {N k : Nat} {M0 R0 : xM} {G : Nat → Nat} {B : Nat → Nat → Nat → Bool} (hd : DS M0 0 (R0.1 1) G B) (hN : 300 ≤ N) (hk : k < G 3) : ∃ R1, F_X10_writes N (nI k) R0 = some (R1, 0) ∧ WR R0 R1 (labL G B k) := by
  have hg := hd.2.2.2.2
  have hk20 : k < 20 := by have := hg.1; omega
  have hg0 : G 0 ≤ 8 := hg.1.1
  obtain ⟨q1, q2, q3, q4⟩ := (hg.2.2.2.2 k hk20).1 hk
  have hb6 : G (579 + 44 * k + 1) < 6 := by have := hg.1; omega
  obtain ⟨t1, t2, t3⟩ := labL_len hg hk
  have d1 := (dig_len (n := G (579 + 44 * k + 1))).2.1 (by omega)
  have hs200 := fun c (hc : c < 8) => (hg.step200 (c := c) hk hc).1
  have hR : ∀ {R : xM} {l : List Nat}, WR R0 R l → ∀ i, i < 1460 → R.1 1 i = nI (G i) := fun {R l} h i hi => by rw [h.1.1 1 (by omega) (by omega)]; exact hd.2.2.1 i hi
  obtain ⟨R2, e1, e2⟩ := putR (N := N) (x := 98) (WR_0 (R := R0)) (by decide) (by decide)
  obtain ⟨R3, e3, e4⟩ := numR (N := N) (n := G (579 + 44 * k + 1)) (by omega) (by omega) e2 (by rw [d1]; decide)
  have e4 : WR R0 R3 ((98 :: dig (G (579 + 44 * k + 1))) ++ colL G B k 0) := by
    show WR R0 R3 ((98 :: dig (G (579 + 44 * k + 1))) ++ [])
    rw [List.append_nil]
    exact e4
  have hpl : (98 :: dig (G (579 + 44 * k + 1))).length = 2 := by rw [List.length_cons, d1]
  have e80 : ∀ d, G 0 + d ≤ 8 → colL G B k (G 0 + d) = colL G B k (G 0) := by
    intro d
    induction d with
    | zero => intro _; rfl
    | succ d ih =>
      intro hd8
      show colL G B k (G 0 + d) ++ oneL G B k (G 0 + d) = _
      have h0 : G (579 + 44 * k + 2 + (G 0 + d)) = 0 := by
        rcases ((hg.2.2.2.2 k hk20).2.1 (G 0 + d) (by omega)).2 with t | t
        · omega
        · exact t
      rw [show oneL G B k (G 0 + d) = [] from if_pos h0, List.append_nil]
      exact ih (by omega)
  have e8 : colL G B k 8 = colL G B k (G 0) := by
    have := e80 (8 - G 0) (by omega)
    rw [show G 0 + (8 - G 0) = 8 by omega] at this
    exact this
  have loop : ∀ n c (R : xM), c ≤ G 0 → G 0 < n + c → WR R0 R ((98 :: dig (G (579 + 44 * k + 1))) ++ colL G B k c) → ∃ R1, L_X10_writes_23 N n (nI k) (nI c) R = some (R1, 0) ∧ WR R0 R1 (labL G B k) := by
    intro n
    induction n with
    | zero => intro c R a1 a2; omega
    | succ n ih =>
      intro c R a1 a2 h
      rw [L_X10_writes_23, show R.1 1 (0 : Int32).toNatClampNeg = nI (G 0) from hR h 0 (by omega)]
      by_cases hc : c = G 0
      · have h11 := (hg.2.2.2.2 k hk20).2.2.2.1
        have h10 := (hg.2.2.2.2 k hk20).2.2.1
        have ha := (hg.step200 (c := 0) hk (by omega)).2
        rw [hc, ← e8] at h
        rw [if_pos (nI_le (by omega) (by omega)), show F_X10_canAt N (nI k) 10 R = _ from rdK (k := 10) (hR h) hk20 (by omega), xbd_some]
        by_cases h0 : G (579 + 44 * k + 10) = 0
        · rw [if_pos (show (R, nI (G (579 + 44 * k + 10))).2 ≤ (0 : Int32) from by show nI (G (579 + 44 * k + 10)) ≤ 0; rw [h0]; decide)]
          refine ⟨R, rfl, ?_⟩
          unfold labL tailL
          rw [if_pos h0, List.append_nil]
          exact h
        · have et : tailL G k = 43 :: dig (G (579 + 44 * k + 11)) := if_neg h0
          have etl : (tailL G k).length = 1 + (dig (G (579 + 44 * k + 11))).length := by rw [et, List.length_cons]; omega
          have hl : ((98 :: dig (G (579 + 44 * k + 1))) ++ colL G B k 8).length = 2 + (colL G B k 8).length := by rw [List.length_append, hpl]
          obtain ⟨M4, f1, f2⟩ := putR (N := N) (x := 43) h (by omega) (by decide)
          obtain ⟨M5, f3, f4⟩ := numR (N := N) (n := G (579 + 44 * k + 11)) (by omega) (by omega) f2 (by rw [List.length_append, hl]; show 2 + (colL G B k 8).length + 1 + (dig (G (579 + 44 * k + 11))).length ≤ 654; omega)
          rw [if_neg (show ¬ (R, nI (G (579 + 44 * k + 10))).2 ≤ (0 : Int32) from nI_nle (by omega) (by omega)), show F_X10_writesLetter N 43 (R, nI (G (579 + 44 * k + 10))).1 = some (M4, 0) from f1, xbd_some, show F_X10_canAt N (nI k) 11 (M4, (0 : Int32)).1 = _ from rdK (k := 11) (hR f2) hk20 (by omega), xbd_some]
          dsimp only
          rw [f3, xbd_some]
          refine ⟨M5, rfl, ?_⟩
          unfold labL
          rw [et, show (98 :: dig (G (579 + 44 * k + 1))) ++ colL G B k 8 ++ 43 :: dig (G (579 + 44 * k + 11)) = (98 :: dig (G (579 + 44 * k + 1))) ++ colL G B k 8 ++ [43] ++ dig (G (579 + 44 * k + 11)) from by rw [List.append_assoc _ [43]]; rfl]
          exact f4
      · have hc8 : c < 8 := by omega
        have e : colL G B k (c + 1) = colL G B k c ++ oneL G B k c := rfl
        have hm := colL_mono (G := G) (B := B) (k := k) (c := c + 1) (d := 8) (by omega)
        have s200 := hs200 c hc8
        have rs : ∀ {R : xM} {l : List Nat}, WR R0 R l → F_X10_canAt N (nI k) (2 + nI c) R = some (R, nI (G (579 + 44 * k + 2 + c))) := fun {R l} h => by rw [show (2 : Int32) + nI c = nI (2 + c) from nI_add 2 c, rdK (hR h) hk20 (by omega), show 579 + 44 * k + (2 + c) = 579 + 44 * k + 2 + c by omega]
        rw [if_neg (nI_ge (by omega) (by omega)), rs h, xbd_some]
        by_cases h0 : G (579 + 44 * k + 2 + c) = 0
        · rw [if_pos (show (R, nI (G (579 + 44 * k + 2 + c))).2 ≤ (0 : Int32) from by show nI (G (579 + 44 * k + 2 + c)) ≤ 0; rw [h0]; decide)]
          unfold L_X10_writes_108
          rw [nI_1, xl_v]
          refine ih (c + 1) R (by omega) (by omega) ?_
          rw [e, show oneL G B k c = [] from if_pos h0, List.append_nil]
          exact h
        · have eo : oneL G B k c = (44 :: dig c) ++ ((61 :: dig (G (579 + 44 * k + 2 + c))) ++ lotsL B k c 100) := if_neg h0
          have eol : (oneL G B k c).length = 1 + (dig c).length + (1 + (dig (G (579 + 44 * k + 2 + c))).length) + (lotsL B k c 100).length := by rw [eo, List.length_append, List.length_append, List.length_cons, List.length_cons]; omega
          have el : (colL G B k (c + 1)).length = (colL G B k c).length + (oneL G B k c).length := by rw [e, List.length_append]
          obtain ⟨P, hP⟩ : ∃ P, P = (98 :: dig (G (579 + 44 * k + 1))) ++ colL G B k c := ⟨_, rfl⟩
          have hPl : P.length = 2 + (colL G B k c).length := by rw [hP, List.length_append, hpl]
          rw [← hP] at h
          obtain ⟨M4, f1, f2⟩ := putR (N := N) (x := 44) h (by omega) (by decide)
          obtain ⟨M5, f3, f4⟩ := numR (N := N) (n := c) (by omega) (by omega) f2 (by rw [List.length_append]; show P.length + 1 + _ ≤ 654; omega)
          obtain ⟨M6, f5, f6⟩ := putR (N := N) (x := 61) f4 (by rw [List.length_append, List.length_append]; show P.length + 1 + (dig c).length + 1 ≤ 654; omega) (by decide)
          obtain ⟨M7, f7, f8⟩ := numR (N := N) (n := G (579 + 44 * k + 2 + c)) (by omega) (by omega) f6 (by rw [List.length_append, List.length_append, List.length_append]; show P.length + 1 + (dig c).length + 1 + _ ≤ 654; omega)
          have eP : P ++ [44] ++ dig c ++ [61] ++ dig (G (579 + 44 * k + 2 + c)) = P ++ ((44 :: dig c) ++ (61 :: dig (G (579 + 44 * k + 2 + c)))) := by
            rw [List.append_assoc _ [61], List.append_assoc _ (dig c), List.append_assoc P [44]]
            rfl
          rw [eP] at f8
          obtain ⟨M8, f9, f10⟩ := lotsR (N := N) (k := k) (c := c) (B := B) (P := P ++ ((44 :: dig c) ++ (61 :: dig (G (579 + 44 * k + 2 + c))))) (R0 := R0) (K := L_X10_writes_108 N (L_X10_writes_23 N n)) (by omega) hk20 hc8 (fun q hq => (hd.bits hk20 hc8 hq rfl).2) (by rw [List.length_append, List.length_append, List.length_cons, List.length_cons]; omega) N 0 M7 (by omega) (by omega) (by show WR R0 M7 (_ ++ []); rw [List.append_nil]; exact f8)
          rw [if_neg (show ¬ (R, nI (G (579 + 44 * k + 2 + c))).2 ≤ (0 : Int32) from nI_nle (by omega) (by omega)), show F_X10_writesLetter N 44 (R, nI (G (579 + 44 * k + 2 + c))).1 = some (M4, 0) from f1, xbd_some, f3, xbd_some, show F_X10_writesLetter N 61 (M5, (0 : Int32)).1 = some (M6, 0) from f5, xbd_some, show F_X10_canAt N (nI k) (2 + nI c) (M6, (0 : Int32)).1 = _ from rs f6, xbd_some]
          dsimp only
          rw [f7, xbd_some]
          refine Exists.elim (ih (c + 1) M8 (by omega) (by omega) ?_) (fun R9 h9 => ⟨R9, ?_, h9.2⟩)
          · rw [e, eo, ← List.append_assoc, ← hP]
            rw [show P ++ ((44 :: dig c) ++ ((61 :: dig (G (579 + 44 * k + 2 + c))) ++ lotsL B k c 100)) = P ++ ((44 :: dig c) ++ (61 :: dig (G (579 + 44 * k + 2 + c)))) ++ lotsL B k c 100 from by rw [List.append_assoc P, List.append_assoc (44 :: dig c)]]
            exact f10
          · refine Eq.trans (show L_X10_writes_75 N (L_X10_writes_108 N (L_X10_writes_23 N n)) N (nI k) (nI c) 0 M7 = _ from f9) ?_
            unfold L_X10_writes_108
            rw [nI_1, xl_v]
            exact h9.1
  obtain ⟨R1, z1, z2⟩ := loop N 0 R3 (by omega) (by omega) e4
  refine ⟨R1, ?_, z2⟩
  unfold F_X10_writes
  rw [xl_v, show F_X10_writesLetter N 98 (xS R0 0 (upd (R0.1 0) 19 0)) = some (R2, 0) from e1, xbd_some, show F_X10_canAt N (nI k) 1 (R2, (0 : Int32)).1 = _ from rdK (k := 1) (hR e2) hk20 (by omega), xbd_some]
  dsimp only
  rw [e3, xbd_some]
  exact z1
/-- what was written changes nothing else -/
theorem Rel.wrote {M R M1 R1 : xM} {l : List Nat} (h : Rel M R) (hm : WM M M1 l) (hr : WR R R1 l) : Rel M1 R1 := by
  obtain ⟨⟨G, B, hd⟩, hx⟩ := h
  obtain ⟨⟨a1, a2⟩, -⟩ := hm
  obtain ⟨⟨b1, b2⟩, -⟩ := hr
  exact ⟨⟨G, B, hd.cong (fun k hk => a2 _ (by omega) (by omega)) (fun k hk => by rw [a1]) (fun i hi => by rw [b1 1 (by omega) (by omega)])⟩, hx.cong ⟨fun k k1 k2 => a2 k (by omega) (by omega), fun k k1 k2 => by rw [a1]⟩ ⟨b1 2 (by omega) (by omega), b1 3 (by omega) (by omega), b1 5 (by omega) (by omega), b2 3 (by omega), b2 5 (by omega), b2 7 (by omega), b2 8 (by omega), b2 10 (by omega), b2 11 (by omega)⟩⟩
theorem o_29 {N : Nat} (hN : 12000 ≤ N) {v1 v2 v3 v4 v5 v6 : Int32} {M R : xM} (h : Rel M R) : ∃ q, zOp_29 N v1 v2 v3 v4 v5 v6 M R = some q ∧ Rel q.1 q.2 := by
  refine zAgr (hd := hI) ?_
  obtain ⟨⟨G, B, hd⟩, hx⟩ := id h
  obtain ⟨-, -, -, ⟨m3, r3⟩, -⟩ := hd.n0
  have hb := hd.2.2.2.2.1
  rcases zCan (N := N) (n := G 3) (by omega) m3 r3 v1 with ⟨k, hk, rfl, e1, e2⟩ | ⟨e1, e2⟩
  · obtain ⟨M1, f1, f2⟩ := writeM (N := N) hd (by omega) hk rfl
    obtain ⟨R1, g1, g2⟩ := writeR (N := N) hd (by omega) hk
    refine Or.inl ⟨M1, xS R1 0 (upd (R1.1 0) 0 0), nI (labL G B k).length, ?_, ?_, xS_in, (h.wrote f2 g2).thrown⟩
    · unfold F_X9_labelLength
      rw [e1, xbd_some, xth_inl, ck_nI (by omega) (by decide), nI_clamp (by omega), show (0 : Nat) + 87 + 3 * k = 87 + 3 * k by omega, f1, xbd_some]
      dsimp only
      rw [f2.2.1]
    · unfold F_X10_labelLength
      rw [e2, xbd_some, if_neg i1n, g1, xbd_some]
      dsimp only
      rw [g2.2.1]
      rfl
  · refine Agr.no (E := "java/lang/IndexOutOfBoundsException") (k := 1) (w := 0) h rfl (by decide) ?_ ?_
    · unfold F_X9_labelLength; rw [e1]; rfl
    · unfold F_X10_labelLength; rw [e2]; rfl
abbrev hLb : xM → String → Option xR := fun (M8 : xM) (E : String) => if E = "java/lang/IndexOutOfBoundsException" then some (M8, 1) else if E = "java/util/NoSuchElementException" then some (M8, 2) else none
theorem xch_nI {x : Nat} {α : Type} {a : Option α} (h : x < 65536) : xck (xch (nI x)) a = a := by
  have : xch (nI x) = true := by
    unfold xch
    refine decide_eq_true ?_
    rw [nI_toInt (by omega)]
    omega
  rw [this]
  rfl
theorem fail_ch {N : Nat} {w : Int32} {R : xM} : xbd (F_X10_fails N w R) (fun (r9 : xR) => xck (xch ((r9.2).toUInt32 % 65536).toInt32) (some (r9.1, ((r9.2).toUInt32 % 65536).toInt32))) = some (xS R 0 (upd (R.1 0) 0 w), 0) := by
  have e : ((0 : Int32).toUInt32 % 65536).toInt32 = 0 := by decide
  have e2 : xch 0 = true := by decide
  unfold F_X10_fails
  rw [xl_v, xbd_some]
  dsimp only
  rw [e, e2]
  rfl
theorem o_30 {N : Nat} (hN : 12000 ≤ N) {v1 v2 v3 v4 v5 v6 : Int32} {M R : xM} (h : Rel M R) : ∃ q, zOp_30 N v1 v2 v3 v4 v5 v6 M R = some q ∧ Rel q.1 q.2 := by
  refine zAgr (hd := hLb) ?_
  obtain ⟨⟨G, B, hd⟩, hx⟩ := id h
  obtain ⟨-, -, -, ⟨m3, r3⟩, -⟩ := hd.n0
  have hb := hd.2.2.2.2.1
  rcases zCan (N := N) (n := G 3) (by omega) m3 r3 v1 with ⟨k, hk, rfl, e1, e2⟩ | ⟨e1, e2⟩
  · obtain ⟨M1, f1, f2⟩ := writeM (N := N) hd (by omega) hk rfl
    obtain ⟨R1, g1, g2⟩ := writeR (N := N) hd (by omega) hk
    have hl := (labL_len hd.2.2.2.2 hk).1
    have fX : F_X9_label N (nI k) v2 M = (if v2 < 0 then L_X9_label_36 N M1 else (if v2 < nI (labL G B k).length then xck (xin v2 654) (xck (xch (M1.1 1480 v2.toNatClampNeg)) (some (M1, Sum.inl (M1.1 1480 v2.toNatClampNeg)))) else L_X9_label_36 N M1)) := by
      unfold F_X9_label
      rw [e1, xbd_some, xth_inl, ck_nI (by omega) (by decide), nI_clamp (by omega), show (0 : Nat) + 87 + 3 * k = 87 + 3 * k by omega, f1, xbd_some]
      dsimp only
      rw [f2.2.1]
    rcases zIn (N := N) (n := (labL G B k).length) (by omega) v2 R1 with ⟨j, hj, rfl, g3⟩ | ⟨hv, g3⟩
    · obtain ⟨x, hx1⟩ : ∃ x, (labL G B k)[j]? = some x := ⟨_, List.getElem?_eq_getElem hj⟩
      obtain ⟨a1, a2⟩ := f2.2.2 j x hx1
      obtain ⟨b1, b2⟩ := g2.2.2 j x hx1
      refine Or.inl ⟨M1, xS R1 0 (upd (R1.1 0) 0 0), nI x, ?_, ?_, xS_in, (h.wrote f2 g2).thrown⟩
      · rw [fX, zReq1 (by omega) hj, ck_nI (by omega) (by decide), nI_clamp (by omega), a1, xch_nI a2]
      · unfold F_X10_label
        rw [e2, xbd_some, if_neg i1n, g1, xbd_some]
        dsimp only
        rw [g2.2.1, g3, xbd_some, if_neg i1n, xl_v, ck_nI (by omega) (by decide), nI_clamp (by omega), show (xS (R1, (1 : Int32)).1 0 (upd ((R1, (1 : Int32)).1.1 0) 0 0)).1 9 j = nI x from (congrFun (xS_ne (by omega)) j).trans b1, xch_nI a2]
    · refine Or.inr ⟨M1, xS R1 0 (upd (R1.1 0) 0 2), "java/util/NoSuchElementException", 2, 0, ?_, rfl, ?_, xS_in, by decide, (h.wrote f2 g2).thrown⟩
      · rw [fX, zReq hv]
        rfl
      · unfold F_X10_label
        rw [e2, xbd_some, if_neg i1n, g1, xbd_some]
        dsimp only
        rw [g2.2.1, g3, xbd_some, if_pos (show (R1, (0 : Int32)).2 = 0 from rfl)]
        exact fail_ch
  · refine Agr.no (E := "java/lang/IndexOutOfBoundsException") (k := 1) (w := 0) h rfl (by decide) ?_ ?_
    · unfold F_X9_label; rw [e1]; rfl
    · unfold F_X10_label; rw [e2, xbd_some, if_pos (show (R, (0 : Int32)).2 = 0 from rfl)]; exact fail_ch
