/-! amounts, parts, texts: side by side -/
def okA (A : Nat → Int32) : Prop := ∀ i, i < 10 → A i = -1 ∨ ∃ a, a ≤ 9999 ∧ A i = nI a
abbrev aft (N : Nat) (K : Int32 → Int32 → xM → Option xR) (v1 : Int32) (M2 : xM) : Option xR := if (M2.1 0 13) = 0 then xbd (F_X10_here N M2) (fun (r4 : xR) => (if r4.2 = (44 : Int32) then L_X10_readsText_133 N (K) v1 1 r4.1 else L_X10_readsText_132 N (L_X10_readsText_133 N (K)) v1 r4.1)) else L_X10_readsText_132 N (L_X10_readsText_133 N (K)) v1 M2
section
variable {N t : Nat} {T : Nat → Nat} {M0 R0 : xM} {bs : Int32}
theorem jLoop (hT : TT T t) : ∀ n d v p (M R : xM) (A : Nat → Int32), 1 ≤ d → d ≤ 4 → 4 < n + d → 0 < v → v < 10 ^ d → PM T t M0 M p bs A → PR T t R0 R p 0 A → ∃ M1 R1 p1 v1, L_X5_takeAmount_17 N n (nI v) 4 (nI d) M = some (M1, nI v1) ∧ L_X10_readsAmount_7 N n (nI v) (nI d) R = some (R1, nI v1) ∧ PM T t M0 M1 p1 bs A ∧ PR T t R0 R1 p1 0 A ∧ p ≤ p1 ∧ v1 ≤ 9999 := by
  intro n
  induction n with
  | zero => intro d v p M R A a1 a2 a3; omega
  | succ n ih =>
    intro d v p M R A a1 a2 a3 a4 a5 hM hR
    have hv : v < 10 ^ 4 := Nat.lt_of_lt_of_le a5 (Nat.pow_le_pow_right (by decide) a2)
    have hv : v < 10000 := hv
    rw [L_X5_takeAmount_17, L_X10_readsAmount_7, if_pos hR.2.2.2.1, if_neg (nI_nle a4 (by omega))]
    by_cases hd : d = 4
    · subst hd
      rw [if_pos (show (4 : Int32) ≤ nI 4 from by decide), if_pos (show (4 : Int32) ≤ nI 4 from by decide)]
      exact ⟨M, R, p, v, rfl, rfl, hM, hR, Nat.le_refl _, by omega⟩
    · rw [if_neg (show ¬ (4 : Int32) ≤ nI d from nI_ge (b := 4) (by omega) (by omega)), if_neg (show ¬ (4 : Int32) ≤ nI d from nI_ge (b := 4) (by omega) (by omega))]
      obtain ⟨x, x1, x2⟩ := inH (N := N) hT hR
      rcases x2 with ⟨y1, y2, y3⟩ | ⟨y1, y3⟩
      · obtain ⟨M1, f1, f2⟩ := tdM (N := N) hT hM y1
        obtain ⟨R1, g1, g2⟩ := rd_y (N := N) hT hR y1
        have hd9 := y1.2.2
        rw [dM_y hT hM y1, xbd_some, if_neg (show ¬ (M, (1 : Int32)).2 = 0 from by show ¬ (1 : Int32) = 0; decide), f1, xbd_some, x1, xbd_some, show F_X10_in N (R, x).2 48 57 (R, x).1 = some (R, 1) from y3, xbd_some, if_neg i1n, g1, xbd_some]
        dsimp only
        rw [show nI v * 10 = nI (v * 10) from pk_mul v 10, show 10 * nI v = nI (v * 10) from (pk_mul 10 v).trans (congrArg nI (Nat.mul_comm 10 v)), nI_add, xl_v, nI_1, xl_v, xl_v, xl_v]
        obtain ⟨M2, R2, p1, w1, z1, z2, z3, z4, z5, z6⟩ := ih (d + 1) (v * 10 + (T p - 48)) (p + 1) M1 R1 A (by omega) (by omega) (by omega) (by omega) (by rw [Nat.pow_succ]; omega) f2 g2
        exact ⟨M2, R2, p1, w1, z1, z2, z3, z4, by omega, z6⟩
      · rw [dM_n hT hM y1, xbd_some, if_pos (show (M, (0 : Int32)).2 = 0 from rfl), x1, xbd_some, show F_X10_in N (R, x).2 48 57 (R, x).1 = some (R, 0) from y3, xbd_some, if_pos (show (R, (0 : Int32)).2 = 0 from rfl)]
        exact ⟨M, R, p, v, rfl, rfl, hM, hR, Nat.le_refl _, by omega⟩
theorem jAm {p : Nat} {M R : xM} {A : Nat → Int32} (hN : 10 ≤ N) (hT : TT T t) (hM : PM T t M0 M p bs A) (hR : PR T t R0 R p 0 A) (hd : atD T t p) : ∃ M1 R1 p1 v1, F_X5_takeAmount N M = some (M1, nI v1) ∧ F_X10_readsAmount N R = some (R1, nI v1) ∧ PM T t M0 M1 p1 bs A ∧ PR T t R0 R1 p1 0 A ∧ p + 1 ≤ p1 ∧ v1 ≤ 9999 := by
  obtain ⟨M1, f1, f2⟩ := tdM (N := N) hT hM hd
  obtain ⟨R1, g1, g2⟩ := rd_y (N := N) hT hR hd
  obtain ⟨n, hn⟩ : ∃ n, N = n + 1 := ⟨N - 1, by omega⟩
  obtain ⟨hp, d1, d2⟩ := hd
  unfold F_X5_takeAmount F_X10_readsAmount L_X5_takeAmount_14
  rw [f1, xbd_some, g1, xbd_some]
  dsimp only
  rw [xl_v, xl_v]
  by_cases h0 : T p - 48 = 0
  · rw [h0, if_pos (show nI 0 = (0 : Int32) from rfl)]
    refine ⟨M1, R1, p + 1, 0, ?_, ?_, f2, g2, Nat.le_refl _, by omega⟩
    · rw [show L_X5_takeAmount_17 N N (nI 0) 1 1 M1 = L_X5_takeAmount_17 N (n + 1) (nI 0) 1 1 M1 from by rw [← hn], L_X5_takeAmount_17, if_pos (show (1 : Int32) ≤ 1 from by decide)]
    · rw [show L_X10_readsAmount_7 N N (nI 0) 1 R1 = L_X10_readsAmount_7 N (n + 1) (nI 0) 1 R1 from by rw [← hn], L_X10_readsAmount_7, if_pos g2.2.2.2.1, if_pos (show nI 0 ≤ (0 : Int32) from by decide)]
  · rw [if_neg (nI_ne0 (by omega) (by omega))]
    obtain ⟨M2, R2, p1, w1, z1, z2, z3, z4, z5, z6⟩ := jLoop (N := N) hT N 1 (T p - 48) (p + 1) M1 R1 A (by omega) (by omega) (by omega) (by omega) (by rw [Nat.pow_one]; omega) f2 g2
    exact ⟨M2, R2, p1, w1, z1, z2, z3, z4, by omega, z6⟩
theorem jPart {p : Nat} {M R : xM} {A : Nat → Int32} (hN : 10 ≤ N) (hT : TT T t) (hA : okA A) (hM : PM T t M0 M p bs A) (hR : PR T t R0 R p 0 A) : ∃ M1 R1, (∀ n v1, L_X10_readsText_72 N (n + 1) v1 1 R = aft N (L_X10_readsText_72 N n) v1 R1) ∧ ((F_X5_takePart N M = some (M1, 1) ∧ ∃ p1 A1, okA A1 ∧ PM T t M0 M1 p1 bs A1 ∧ PR T t R0 R1 p1 0 A1 ∧ p + 3 ≤ p1) ∨ (F_X5_takePart N M = some (M1, 0) ∧ ∃ q A1 A2, PM T t M0 M1 q bs A1 ∧ PR T t R0 R1 q 1 A2)) := by
  have c0 : ∀ n v1, L_X10_readsText_72 N (n + 1) v1 1 R = xbd (F_X10_readsDigit N R) (fun (r7 : xR) => xl (r7.2) (fun (y8 : Int32) => xbd (F_X10_reads N 61 r7.1) (fun (r9 : xR) => (if (r9.1.1 0 13) = 0 then xbd (F_X10_readsAmount N r9.1) (fun (r11 : xR) => L_X10_readsText_102 N (L_X10_readsText_72 N n) v1 y8 (r11.2) r11.1) else L_X10_readsText_102 N (L_X10_readsText_72 N n) v1 y8 0 r9.1)))) := fun n v1 => by
    rw [L_X10_readsText_72, if_neg (show ¬ (1 : Int32) = 0 from by decide)]
  have c1 : ∀ (K : Int32 → Int32 → xM → Option xR) (v1 : Int32) (c : Nat) (x : Int32) (R : xM), c < 10 → L_X10_readsText_102 N K v1 (nI c) x R = aft N K v1 (xS R 6 (upd (R.1 6) c x)) := fun K v1 c x R hc => by
    unfold L_X10_readsText_102
    rw [ck_nI hc (by decide), nI_clamp (by omega), xl_v]
  have wrong : ∀ {q : Nat} {R' : xM} {c : Nat} {A' : Nat → Int32}, PR T t R0 R' q 1 A' → PR T t R0 (xS R' 6 (upd (R'.1 6) c 0)) q 1 (upd A' c 0) := fun h => h.tab
  by_cases hd : atD T t p
  · obtain ⟨M1, f1, f2⟩ := tdM (N := N) hT hM hd
    obtain ⟨R1, g1, g2⟩ := rd_y (N := N) hT hR hd
    have hc : T p - 48 < 10 := by have := hd.2.2; omega
    by_cases he : p + 1 < t ∧ T (p + 1) = 61
    · obtain ⟨M2, f3, f4⟩ := sgM_y (N := N) (x := 61) hT f2 he.1 he.2
      obtain ⟨R2, g3, g4⟩ := reads_y (N := N) (x := 61) hT g2 he.1 he.2
      by_cases hd2 : atD T t (p + 1 + 1)
      · obtain ⟨M3, R3, p1, v1, z1, z2, z3, z4, z5, z6⟩ := jAm (N := N) hN hT f4 g4 hd2
        refine ⟨xS M3 1475 (upd (M3.1 1475) (T p - 48) (nI v1)), xS R3 6 (upd (R3.1 6) (T p - 48) (nI v1)), fun n w => ?_, Or.inl ⟨?_, p1, upd A (T p - 48) (nI v1), fun i hi => ?_, z3.tab, z4.tab, by omega⟩⟩
        · rw [c0, g1, xbd_some]
          dsimp only
          rw [xl_v, show F_X10_reads N 61 R1 = some (R2, 0) from g3, xbd_some, if_pos (show (R2, (0 : Int32)).1.1 0 13 = 0 from g4.2.2.2.1)]
          dsimp only
          rw [z2, xbd_some, c1 _ _ _ _ _ hc]
        · unfold F_X5_takePart
          rw [dM_y hT hM hd, xbd_some, if_neg (show ¬ (M, (1 : Int32)).2 = 0 from by show ¬ (1 : Int32) = 0; decide), f1, xbd_some]
          dsimp only
          rw [xl_v, show F_X5_takeSign N 61 M1 = some (M2, 1) from f3, xbd_some, if_neg (show ¬ (M2, (1 : Int32)).2 = 0 from by show ¬ (1 : Int32) = 0; decide), show F_X5_isAtDigit N (M2, (1 : Int32)).1 = some (M2, 1) from dM_y hT f4 hd2, xbd_some, if_neg (show ¬ (M2, (1 : Int32)).2 = 0 from by show ¬ (1 : Int32) = 0; decide), z1, xbd_some, ck_nI hc (by decide), nI_clamp (by omega), xl_v]
        · by_cases e : i = T p - 48
          · subst e
            exact Or.inr ⟨v1, z6, pk_us⟩
          · rw [pk_un e]
            exact hA i hi
      · -- no digit behind the sign
        obtain ⟨R3, z1, z2⟩ := rd_n (N := N) hT g4 hd2
        have am : ∃ R9, F_X10_readsAmount N R2 = some (R9, 0) ∧ PR T t R0 R9 (p + 1 + 1) 1 A := by
          obtain ⟨n, hn⟩ : ∃ n, N = n + 1 := ⟨N - 1, by omega⟩
          refine ⟨R3, ?_, z2⟩
          unfold F_X10_readsAmount
          rw [z1, xbd_some]
          dsimp only
          rw [xl_v, show L_X10_readsAmount_7 N N 0 1 R3 = L_X10_readsAmount_7 N (n + 1) 0 1 R3 from by rw [← hn], L_X10_readsAmount_7, if_neg (show ¬ R3.1 0 13 = 0 from by rw [z2.2.2.2.1]; decide)]
        obtain ⟨R9, q1, q2⟩ := am
        refine ⟨M2, xS R9 6 (upd (R9.1 6) (T p - 48) 0), fun n w => ?_, Or.inr ⟨?_, p + 1 + 1, _, _, f4, wrong q2⟩⟩
        · rw [c0, g1, xbd_some]
          dsimp only
          rw [xl_v, show F_X10_reads N 61 R1 = some (R2, 0) from g3, xbd_some, if_pos (show (R2, (0 : Int32)).1.1 0 13 = 0 from g4.2.2.2.1)]
          dsimp only
          rw [q1, xbd_some, c1 _ _ _ _ _ hc]
        · unfold F_X5_takePart
          rw [dM_y hT hM hd, xbd_some, if_neg (show ¬ (M, (1 : Int32)).2 = 0 from by show ¬ (1 : Int32) = 0; decide), f1, xbd_some]
          dsimp only
          rw [xl_v, show F_X5_takeSign N 61 M1 = some (M2, 1) from f3, xbd_some, if_neg (show ¬ (M2, (1 : Int32)).2 = 0 from by show ¬ (1 : Int32) = 0; decide), show F_X5_isAtDigit N (M2, (1 : Int32)).1 = some (M2, 0) from dM_n hT f4 hd2, xbd_some, if_pos (show (M2, (0 : Int32)).2 = 0 from rfl)]
    · obtain ⟨R2, g3, g4⟩ := reads_n (N := N) (x := 61) hT g2 (by decide) he
      refine ⟨M1, xS R2 6 (upd (R2.1 6) (T p - 48) 0), fun n w => ?_, Or.inr ⟨?_, p + 1, _, _, f2, wrong g4⟩⟩
      · rw [c0, g1, xbd_some]
        dsimp only
        rw [xl_v, show F_X10_reads N 61 R1 = some (R2, 0) from g3, xbd_some, if_neg (show ¬ (R2, (0 : Int32)).1.1 0 13 = 0 from by show ¬ R2.1 0 13 = 0; rw [g4.2.2.2.1]; decide), c1 _ _ _ _ _ hc]
      · unfold F_X5_takePart
        rw [dM_y hT hM hd, xbd_some, if_neg (show ¬ (M, (1 : Int32)).2 = 0 from by show ¬ (1 : Int32) = 0; decide), f1, xbd_some]
        dsimp only
        rw [xl_v, show F_X5_takeSign N 61 M1 = some (M1, 0) from sgM_n (N := N) (x := 61) hT f2 (by decide) he, xbd_some, if_pos (show (M1, (0 : Int32)).2 = 0 from rfl)]
  · obtain ⟨R1, g1, g2⟩ := rd_n (N := N) hT hR hd
    obtain ⟨R2, g3, g4⟩ := reads_w (N := N) (x := 61) hT g2
    refine ⟨M, xS R2 6 (upd (R2.1 6) 0 0), fun n w => ?_, Or.inr ⟨?_, p, _, _, hM, wrong g4⟩⟩
    · rw [c0, g1, xbd_some]
      dsimp only
      rw [xl_v, g3, xbd_some, if_neg (show ¬ (R2, (0 : Int32)).1.1 0 13 = 0 from by show ¬ R2.1 0 13 = 0; rw [g4.2.2.2.1]; decide), show (0 : Int32) = nI 0 from rfl, c1 _ _ _ _ _ (by decide)]
    · unfold F_X5_takePart
      rw [dM_n hT hM hd, xbd_some, if_pos (show (M, (0 : Int32)).2 = 0 from rfl)]
/-- the reference's last look -/
theorem end72 {p : Nat} {R : xM} {A : Nat → Int32} {w : Int32} (hT : TT T t) (hR : PR T t R0 R p w A) (hw : w = 0 ∨ w = 1) (n : Nat) (v1 : Int32) : ∃ R1, L_X10_readsText_72 N (n + 1) v1 0 R = some (R1, v1) ∧ PR T t R0 R1 p (if p < t then 1 else w) A := by
  have ht := hT.1
  have hp8 := hR.2.2.2.2.2.2
  rw [L_X10_readsText_72, if_pos rfl, hR.2.1, hR.2.2.1, hR.2.2.2.1]
  by_cases hp : p < t
  · have e1 : w ||| 1 = 1 := by rcases hw with rfl | rfl <;> decide
    rw [if_neg (nI_ge hp (by omega)), e1, show xz 1 = true from by decide, xck_t, if_pos hp]
    exact ⟨_, rfl, hR.wr⟩
  · have e1 : w ||| 0 = w := Int32.or_zero
    have e2 : xz w = true := by rcases hw with rfl | rfl <;> decide
    rw [if_pos (nI_le (by omega) (by omega)), e1, e2, xck_t, if_neg hp]
    exact ⟨_, rfl, hR.wr⟩
theorem aft_w {p : Nat} {R : xM} {A : Nat → Int32} (hT : TT T t) (hR : PR T t R0 R p 1 A) (n : Nat) (v1 : Int32) : ∃ R1, aft N (L_X10_readsText_72 N (n + 1)) v1 R = some (R1, v1) ∧ PR T t R0 R1 p 1 A := by
  obtain ⟨R1, z1, z2⟩ := end72 (N := N) hT (hR.pl hR.2.2.2.2.2.2) (Or.inr rfl) n v1
  refine ⟨R1, ?_, ?_⟩
  · show (if (R.1 0 13) = 0 then _ else _) = _
    rw [if_neg (by rw [hR.2.2.2.1]; decide)]
    unfold L_X10_readsText_132 L_X10_readsText_133 L_X10_readsText_148
    rw [if_pos rfl, hR.2.2.1, Int32.add_zero, xl_v]
    exact z1
  · split at z2
    · exact z2
    · exact z2
theorem jParts (hN : 10 ≤ N) (hT : TT T t) : ∀ n m k p (M R : xM) (A : Nat → Int32) (v1 : Int32), t + 2 < n + p → t + 2 < m + p → 1 ≤ k → k + 2 ≤ p → okA A → PM T t M0 M p bs A → PR T t R0 R p 0 A → ∃ M1 R1, aft N (L_X10_readsText_72 N m) v1 R = some (R1, v1) ∧ ((L_X5_takeParts_7 N n 1 (nI k) M = some (M1, 1) ∧ ∃ p1 A1, okA A1 ∧ PM T t M0 M1 p1 bs A1 ∧ PR T t R0 R1 p1 0 A1) ∨ (L_X5_takeParts_7 N n 1 (nI k) M = some (M1, 0) ∧ ∃ q A1 A2, PM T t M0 M1 q bs A1 ∧ PR T t R0 R1 q 1 A2)) := by
  intro n
  induction n with
  | zero => intro m k p M R A v1 a1 a0 a2 a3 hA hM hR; have := hM.2.2.2.2.2.2; omega
  | succ n ih =>
    intro m k p M R A v1 a1 a0 a2 a3 hA hM hR
    obtain ⟨m, rfl⟩ : ∃ m', m = m' + 1 := ⟨m - 1, by have := hM.2.2.2.2.2.2; omega⟩
    have ht := hT.1
    have hp8 := hM.2.2.2.2.2.2
    -- a class that is no longer good
    have bad : ∀ (j : Nat) (M : xM), 0 < n → L_X5_takeParts_48 N (L_X5_takeParts_49 N (L_X5_takeParts_7 N n)) (nI j) M = some (M, 0) := fun j M hn => by
      obtain ⟨m, rfl⟩ : ∃ m, n = m + 1 := ⟨n - 1, by omega⟩
      unfold L_X5_takeParts_48 L_X5_takeParts_49
      rw [nI_1, xl_v, L_X5_takeParts_7]
      split
      · rfl
      · rw [if_pos rfl]
        rfl
    have c60 : ¬ (60 : Int32) ≤ nI k := nI_ge (b := 60) (by omega) (by omega)
    rw [L_X5_takeParts_7, if_neg c60, if_neg (show ¬ (1 : Int32) = 0 from by decide), hM.2.1, hM.2.2.1]
    show ∃ M1 R1, (if (R.1 0 13) = 0 then _ else _) = some (R1, v1) ∧ _
    rw [if_pos hR.2.2.2.1]
    have go0 : ∀ {x : Int32}, F_X10_here N R = some (R, x) → ¬ x = 44 → ∃ R1, xbd (F_X10_here N R) (fun (r4 : xR) => (if r4.2 = (44 : Int32) then L_X10_readsText_133 N (L_X10_readsText_72 N (m + 1)) v1 1 r4.1 else L_X10_readsText_132 N (L_X10_readsText_133 N (L_X10_readsText_72 N (m + 1))) v1 r4.1)) = some (R1, v1) ∧ PR T t R0 R1 p (if p < t then 1 else 0) A := fun {x} hx hne => by
      obtain ⟨R1, z1, z2⟩ := end72 (N := N) hT (hR.pl hp8) (Or.inl rfl) m v1
      refine ⟨R1, ?_, z2⟩
      rw [hx, xbd_some, if_neg hne]
      unfold L_X10_readsText_132 L_X10_readsText_133 L_X10_readsText_148
      rw [if_pos rfl]
      dsimp only
      rw [hR.2.2.1, Int32.add_zero, xl_v]
      exact z1
    by_cases hp : p < t
    · have hTp := hT.2 p hp
      by_cases hc : T p = 44
      · -- another part
        obtain ⟨M2, f1, f2⟩ := sgM_y (N := N) (x := 44) hT hM hp hc
        have hR2 := hR.pl (q := p + 1) hp
        obtain ⟨M3, R3, g1, g2⟩ := jPart (N := N) hN hT hA f2 hR2
        rw [if_neg (nI_ge hp (by omega)), here_y hT hR hp, xbd_some, if_pos (show (R, nI (T p)).2 = (44 : Int32) from by show nI (T p) = 44; rw [hc]; rfl)]
        have e1 : L_X10_readsText_133 N (L_X10_readsText_72 N (m + 1)) v1 1 (R, nI (T p)).1 = aft N (L_X10_readsText_72 N m) v1 R3 := by
          unfold L_X10_readsText_133 L_X10_readsText_148
          rw [if_neg (show ¬ (1 : Int32) = 0 from by decide)]
          dsimp only
          rw [hR.2.2.1, nI_1, xl_v]
          exact g1 m v1
        rw [e1, show F_X5_takeSign N 44 M = some (M2, 1) from f1, xbd_some, if_neg (show ¬ (M2, (1 : Int32)).2 = 0 from by show ¬ (1 : Int32) = 0; decide)]
        rcases g2 with ⟨h1, p1, A1, k1, k2, k3, k4⟩ | ⟨h1, q, A1, A2, k2, k3⟩
        · have hp1 := k2.2.2.2.2.2.2
          rw [show F_X5_takePart N (M2, (1 : Int32)).1 = some (M3, 1) from h1, xbd_some, if_neg (show ¬ (M3, (1 : Int32)).2 = 0 from by show ¬ (1 : Int32) = 0; decide)]
          unfold L_X5_takeParts_49
          rw [nI_1, xl_v]
          exact ih m (k + 1) p1 M3 R3 A1 v1 (by omega) (by omega) (by omega) (by omega) k1 k2 k3
        · obtain ⟨m2, hm⟩ : ∃ m2, m = m2 + 1 := ⟨m - 1, by omega⟩
          obtain ⟨R4, w1, w2⟩ := aft_w (N := N) hT k3 m2 v1
          rw [← hm] at w1
          rw [show F_X5_takePart N (M2, (1 : Int32)).1 = some (M3, 0) from h1, xbd_some, if_pos (show (M3, (0 : Int32)).2 = 0 from rfl)]
          exact ⟨M3, R4, w1, Or.inr ⟨bad k M3 (by omega), q, A1, A2, k2, w2⟩⟩
      · obtain ⟨R1, w1, w2⟩ := go0 (here_y hT hR hp) (fun e => hc ((nI_eq (b := 44) (by omega) (by omega)).mp e))
        rw [if_pos hp] at w2
        rw [if_neg (nI_ge hp (by omega)), show F_X5_takeSign N 44 M = some (M, 0) from sgM_n (N := N) (x := 44) hT hM (by decide) (fun e => hc e.2), xbd_some, if_pos (show (M, (0 : Int32)).2 = 0 from rfl)]
        exact ⟨M, R1, w1, Or.inr ⟨bad k M (by omega), p, A, A, hM, w2⟩⟩
    · obtain ⟨R1, w1, w2⟩ := go0 (here_n hT hR hp) (by decide)
      rw [if_neg hp] at w2
      rw [if_pos (nI_le (by omega) (by omega))]
      exact ⟨M, R1, w1, Or.inl ⟨rfl, p, A, hA, hM, w2⟩⟩
end
