/-! the reference pumps -/
theorem noteR {k c q : Nat} {R R1 : xM} (hk : k < 20) (hc : c < 8) (hq : q < 100) (hR : R1 = xS R 1 (upd (R.1 1) (579 + 44 * k + 12 + 4 * c + q / 25) (R.1 1 (579 + 44 * k + 12 + 4 * c + q / 25) ||| (1 : Int32) <<< (nI (q % 25) &&& 31)))) : ∀ k2 d t, k2 < 20 → d < 8 → t < 100 → bitsR (R1.1 1) k2 d t = (bitsR (R.1 1) k2 d t || (decide (k2 = k) && (decide (d = c) && decide (t = q)))) := by
  intro k2 d t hk2 hd ht
  unfold bitsR
  rw [hR, xS_at]
  by_cases e : 579 + 44 * k2 + 12 + 4 * d + t / 25 = 579 + 44 * k + 12 + 4 * c + q / 25
  · rw [e, pk_us, bR_or, one32 _ (Nat.mod_lt _ (by decide)) _ (Nat.mod_lt _ (by decide))]
    have h1 : k2 = k := by omega
    have h2 : d = c := by omega
    rw [decide_eq_true h1, decide_eq_true h2, Bool.true_and, Bool.true_and]
    congr 1
    by_cases e2 : t = q
    · rw [decide_eq_true e2, decide_eq_true (by rw [e2])]
    · rw [decide_eq_false e2, decide_eq_false (by omega)]
  · rw [pk_un e]
    by_cases h1 : k2 = k
    · by_cases h2 : d = c
      · rw [decide_eq_false (show ¬ t = q by intro h; subst h; exact e (by omega)), Bool.and_false, Bool.and_false, Bool.or_false]
      · rw [decide_eq_false h2, Bool.false_and, Bool.and_false, Bool.or_false]
    · rw [decide_eq_false h1, Bool.false_and, Bool.or_false]
def pEnd (o kc : Nat) (v : Int32) (R : xM) : xM := xS (xS R 1 (upd (R.1 1) (o + 5) (R.1 1 (o + 5) + v))) 1 (upd ((xS R 1 (upd (R.1 1) (o + 5) (R.1 1 (o + 5) + v))).1 1) kc ((xS R 1 (upd (R.1 1) (o + 5) (R.1 1 (o + 5) + v))).1 1 kc + v))
theorem i_kc (k c : Nat) : ((579 : Int32) + 44 * nI k + 2) + nI c = nI (579 + 44 * k + 2 + c) := by
  show nI 579 + nI 44 * nI k + nI 2 + nI c = _
  rw [pk_mul, nI_add, nI_add, nI_add]
theorem i_bit (k c q : Nat) : ((((579 : Int32) + (44 * nI k)) + 12) + (4 * nI c)) + nI q = nI (579 + 44 * k + 12 + 4 * c + q) := by
  show nI 579 + nI 44 * nI k + nI 12 + nI 4 * nI c + nI q = _
  rw [pk_mul, pk_mul, nI_add, nI_add, nI_add, nI_add]
theorem sumL_le : ∀ {l : List LT}, okL l → sumL l ≤ 500 * l.length
  | [], _ => Nat.le_refl _
  | y :: l, hk => by
    have q1 := sumL_le hk.tail
    have q2 := (hk.2 y (List.mem_cons_self ..)).2.2.1
    show y.2.1 + sumL l ≤ 500 * (l.length + 1)
    omega
theorem pump58 {N c k o s t q : Nat} {K : Int32 → Int32 → Int32 → Int32 → Int32 → xM → Option xR} {v2 : Int32} {R R2 R3 : xM} (hk : k < 20) (hc : c < 8) (hq : q < 100) (ho : o = 5 + 46 * c) (ht : t ≤ s) (hR2 : R2 = xS R 1 (upd (R.1 1) (579 + 44 * k + 12 + 4 * c + q / 25) (R.1 1 (579 + 44 * k + 12 + 4 * c + q / 25) ||| (1 : Int32) <<< (nI (q % 25) &&& 31)))) (hR3 : R3 = xS R2 1 (upd (R2.1 1) (o + 19) (R2.1 1 (o + 19) - nI t))) : L_X10_pumps_58 N K (nI c) v2 (nI k) (nI o) (nI s) (nI q) (nI t) R = (if R3.1 1 (o + 19) = 0 then xbd (F_X10_goes N (nI c) 0 R3) (fun (r10 : xR) => K (nI c) v2 (nI k) (nI o) (nI (s - t)) r10.1) else K (nI c) v2 (nI k) (nI o) (nI (s - t)) R3) := by
  unfold L_X10_pumps_58
  rw [(i_25 hq).2, (i_25 hq).1, i_bit, ck_nI (by omega) (by decide), ck_nI (by omega) (by decide), nI_clamp (by omega), xl_v, ← hR2, show nI o + 19 = nI (o + 19) from nI_add o 19, ck_nI (by omega) (by decide), ck_nI (by omega) (by decide), nI_clamp (by omega), xl_v, ← hR3, pk_sub ht, xl_v, ck_nI (by omega) (by decide)]
  rfl
theorem pumpR {N c k o : Nat} {v2 : Int32} (hN : 40 ≤ N) (hc : c < 8) (hk : k < 20) (hoc : o = 5 + 46 * c) : ∀ n (l : List LT) (s : Nat) (R : xM), l.length < n → CR (R.1 1) o l → okL l → s ≤ sumL l → ∃ R1, L_X10_pumps_11 N n (nI c) v2 (nI k) (nI o) (nI s) R = some (pEnd o (579 + 44 * k + 2 + c) v2 R1, 0) ∧ CR (R1.1 1) o (pumpL l s) ∧ (∀ j, j ≠ o + 3 → (j < o + 7 ∨ o + 43 ≤ j) → (j < 579 + 44 * k + 12 + 4 * c ∨ 579 + 44 * k + 16 + 4 * c ≤ j) → R1.1 1 j = R.1 1 j) ∧ (∀ p, p ≠ 1 → R1.1 p = R.1 p) ∧ ∀ k2 d q, k2 < 20 → d < 8 → q < 100 → bitsR (R1.1 1) k2 d q = (bitsR (R.1 1) k2 d q || (decide (k2 = k) && (decide (d = c) && pumpN l s q))) := by
  intro n
  induction n with
  | zero => intro l s R h1; omega
  | succ n ih =>
    intro l s R h1 h2 h3 h4
    have stop : ∀ (m : Nat) (R : xM), 0 < m → L_X10_pumps_11 N m (nI c) v2 (nI k) (nI o) (nI 0) R = some (pEnd o (579 + 44 * k + 2 + c) v2 R, 0) := fun m R hm => by
      obtain ⟨m, rfl⟩ : ∃ m', m = m' + 1 := ⟨m - 1, by omega⟩
      rw [L_X10_pumps_11, if_pos (show nI 0 ≤ (0 : Int32) from by decide), show nI o + 5 = nI (o + 5) from nI_add o 5, ck_nI (by omega) (by decide), ck_nI (by omega) (by decide), nI_clamp (by omega), xl_v, i_kc, ck_nI (by omega) (by decide), ck_nI (by omega) (by decide), nI_clamp (by omega)]
      rfl
    by_cases h0 : s = 0
    · subst h0
      refine ⟨R, stop _ _ (by omega), by rw [pumpL_0]; exact h2, fun _ _ _ _ => rfl, fun _ _ => rfl, fun k2 d q _ _ _ => ?_⟩
      rw [pumpN_0, Bool.and_false, Bool.and_false, Bool.or_false]
    · cases l with
      | nil => exact absurd (Nat.le_zero.mp h4) h0
      | cons x l =>
        have e : sumL (x :: l) = x.2.1 + sumL l := rfl
        obtain ⟨b1, b2, b3, b4⟩ := h3.2 x (List.mem_cons_self ..)
        have hl12 := h3.1
        rw [List.length_cons] at h1 hl12
        obtain ⟨x1, x2, x3⟩ := h2.2 0 x rfl
        have x1 : R.1 1 (o + 7) = nI x.1 := x1
        have x2 : R.1 1 (o + 19) = nI x.2.1 := x2
        have hs : s ≤ 6000 := by
          have := sumL_le h3
          rw [List.length_cons] at this
          omega
        obtain ⟨R2, hR2⟩ : ∃ R2, R2 = xS R 1 (upd (R.1 1) (579 + 44 * k + 12 + 4 * c + x.1 / 25) (R.1 1 (579 + 44 * k + 12 + 4 * c + x.1 / 25) ||| (1 : Int32) <<< (nI (x.1 % 25) &&& 31))) := ⟨_, rfl⟩
        have nb := noteR hk hc (by omega) hR2
        have u2 : ∀ j, (j < 579 + 44 * k + 12 + 4 * c ∨ 579 + 44 * k + 16 + 4 * c ≤ j) → R2.1 1 j = R.1 1 j := fun j hj => by rw [hR2, xS_f (by omega)]
        have c2 : CR (R2.1 1) o (x :: l) := h2.cong h3.1 (fun j q1 q2 => u2 j (by omega))
        rw [L_X10_pumps_11, if_neg (nI_nle (by omega) (by omega)), show nI o + 7 = nI (o + 7) from nI_add o 7, ck_nI (by omega) (by decide), nI_clamp (by omega), x1, xl_v, show nI o + 19 = nI (o + 19) from nI_add o 19, ck_nI (by omega) (by decide), nI_clamp (by omega), x2]
        by_cases hle : x.2.1 ≤ s
        · obtain ⟨R3, hR3⟩ : ∃ R3, R3 = xS R2 1 (upd (R2.1 1) (o + 19) (R2.1 1 (o + 19) - nI x.2.1)) := ⟨_, rfl⟩
          have z3 : R2.1 1 (o + 19) - nI x.2.1 = nI 0 := by rw [u2 _ (by omega), x2, pk_sub (Nat.le_refl _), Nat.sub_self]
          rw [if_pos (nI_le hle (by omega)), ck_nI (by omega) (by decide), pump58 hk hc (by omega) hoc hle hR2 hR3, if_pos (by rw [hR3, xS_in, z3]; rfl)]
          have c3 : CR (R3.1 1) o ((x.1, 0, x.2.2) :: l) := by
            rw [hR3, z3, xS_at]
            exact c2.first (by omega) 0
          obtain ⟨R4, d1, d2, d3, d4, d5⟩ := goes_ok (N := N) (c := c) (i := 0) (R := R3) (by omega) hc (by rw [← hoc]; exact c3) (by rw [List.length_cons]; exact hl12) (by rw [List.length_cons]; omega)
          rw [← hoc] at d2 d5
          rw [show F_X10_goes N (nI c) 0 R3 = some (R4, 0) from d1, xbd_some]
          obtain ⟨R5, g1, g2, g3, g4, g5⟩ := ih l (s - x.2.1) R4 (by omega) d2 h3.tail (by omega)
          refine ⟨R5, g1, by rw [pumpL_le h0 hle]; exact g2, fun j a b c => ?_, fun p hp => ?_, fun k2 d q hk2 hd hq => ?_⟩
          · rw [g3 j a b c, d5 j a b, hR3, xS_f (by omega), u2 j c]
          · rw [g4 p hp, d4 p hp, hR3, xS_ne hp, hR2, xS_ne hp]
          · have e1 : bitsR (R4.1 1) k2 d q = bitsR (R2.1 1) k2 d q := by
              unfold bitsR
              rw [d5 _ (by omega) (by omega), hR3, xS_f (by omega)]
            rw [g5 k2 d q hk2 hd hq, e1, nb k2 d q hk2 hd hq, pumpN_le h0 hle]
            cases bitsR (R.1 1) k2 d q <;> cases decide (k2 = k) <;> cases decide (d = c) <;> rfl
        · obtain ⟨R3, hR3⟩ : ∃ R3, R3 = xS R2 1 (upd (R2.1 1) (o + 19) (R2.1 1 (o + 19) - nI s)) := ⟨_, rfl⟩
          have z3 : R2.1 1 (o + 19) - nI s = nI (x.2.1 - s) := by rw [u2 _ (by omega), x2, pk_sub (by omega)]
          rw [if_neg (nI_ge (by omega) (by omega)), pump58 hk hc (by omega) hoc (Nat.le_refl s) hR2 hR3, if_neg (by rw [hR3, xS_in, z3]; exact nI_ne0 (by omega) (by omega)), Nat.sub_self]
          refine ⟨R3, stop n _ (by omega), ?_, fun j a b c => ?_, fun p hp => ?_, fun k2 d q hk2 hd hq => ?_⟩
          · rw [pumpL_gt h0 hle, hR3, z3, xS_at]
            exact c2.first (by omega) _
          · rw [hR3, xS_f (by omega), u2 j c]
          · rw [hR3, xS_ne hp, hR2, xS_ne hp]
          · have e1 : bitsR (R3.1 1) k2 d q = bitsR (R2.1 1) k2 d q := by
              unfold bitsR
              rw [hR3, xS_f (by omega)]
            rw [e1, nb k2 d q hk2 hd hq, pumpN_gt h0 hle]
theorem pumps_ok {N c k s : Nat} {R : xM} {l : List LT} (hN : 40 ≤ N) (hc : c < 8) (hk : k < 20) (h : CR (R.1 1) (5 + 46 * c) l) (ho : okL l) (hs : s ≤ sumL l) : ∃ R1, F_X10_pumps N (nI c) (nI s) (nI k) R = some (R1, 0) ∧ CR (R1.1 1) (5 + 46 * c) (pumpL l s) ∧ (∀ j, j ≠ 5 + 46 * c + 3 → j ≠ 5 + 46 * c + 5 → (j < 5 + 46 * c + 7 ∨ 5 + 46 * c + 43 ≤ j) → (j < 579 + 44 * k + 12 + 4 * c ∨ 579 + 44 * k + 16 + 4 * c ≤ j) → j ≠ 579 + 44 * k + 2 + c → R1.1 1 j = R.1 1 j) ∧ R1.1 1 (5 + 46 * c + 5) = R.1 1 (5 + 46 * c + 5) + nI s ∧ R1.1 1 (579 + 44 * k + 2 + c) = R.1 1 (579 + 44 * k + 2 + c) + nI s ∧ (∀ p, p ≠ 1 → R1.1 p = R.1 p) ∧ ∀ k2 d q, k2 < 20 → d < 8 → q < 100 → bitsR (R1.1 1) k2 d q = (bitsR (R.1 1) k2 d q || (decide (k2 = k) && (decide (d = c) && pumpN l s q))) := by
  obtain ⟨o, hoc⟩ : ∃ o, o = 5 + 46 * c := ⟨_, rfl⟩
  rw [← hoc] at h ⊢
  obtain ⟨R1, g1, g2, g3, g4, g5⟩ := pumpR (N := N) (v2 := nI s) hN hc hk hoc N l s R (by have := ho.1; omega) h ho hs
  have w0 : ∀ j, j ≠ o + 5 → j ≠ 579 + 44 * k + 2 + c → (pEnd o (579 + 44 * k + 2 + c) (nI s) R1).1 1 j = R1.1 1 j := fun j a b => by
    unfold pEnd
    rw [xS_f b, xS_f a]
  refine ⟨pEnd o (579 + 44 * k + 2 + c) (nI s) R1, ?_, ⟨?_, fun j x hx => ?_⟩, fun j a b c d e => ?_, ?_, ?_, fun p hp => ?_, fun k2 d q hk2 hd hq => ?_⟩
  · unfold F_X10_pumps
    rw [show (5 : Int32) + 46 * nI c = nI o from by rw [hoc]; show nI 5 + nI 46 * nI c = _; rw [pk_mul, nI_add], xl_v]
    exact g1
  · rw [w0 _ (by omega) (by omega)]
    exact g2.1
  · have hj := len_some hx
    have := (pumpL_ok (s := s) ho).1.1
    dsimp only
    rw [w0 _ (by omega) (by omega), w0 _ (by omega) (by omega), w0 _ (by omega) (by omega)]
    exact g2.2 j x hx
  · rw [w0 j b e, g3 j a c d]
  · unfold pEnd
    rw [xS_f (by omega), xS_in, g3 _ (by omega) (by omega) (by omega)]
  · unfold pEnd
    rw [xS_in, xS_f (by omega), g3 _ (by omega) (by omega) (by omega)]
  · unfold pEnd
    rw [xS_ne hp, xS_ne hp, g4 p hp]
  · rw [← g5 k2 d q hk2 hd hq]
    unfold bitsR
    rw [w0 _ (by omega) (by omega)]
