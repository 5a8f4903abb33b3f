/-! letters and numbers are written -/
def WM (M0 M : xM) (l : List Nat) : Prop := (M.2 = M0.2 ∧ ∀ k, k ≠ 1479 → k ≠ 1480 → M.1 k = M0.1 k) ∧ M.1 1479 1 = nI l.length ∧ ∀ j x, l[j]? = some x → M.1 1480 j = nI x ∧ x < 65536
def WR (R0 R : xM) (l : List Nat) : Prop := ((∀ p, p ≠ 0 → p ≠ 9 → R.1 p = R0.1 p) ∧ ∀ s, s ≠ 19 → R.1 0 s = R0.1 0 s) ∧ R.1 0 19 = nI l.length ∧ ∀ j x, l[j]? = some x → R.1 9 j = nI x ∧ x < 65536
theorem nar_ch {x : Nat} (h : x < 65536) : vp_nar .char (nI x) = nI x := by
  show ((nI x).toUInt32 % 65536).toInt32 = nI x
  rw [pk_char, pk_tn (by omega), Nat.mod_eq_of_lt h]
theorem get_app {l : List Nat} {x y j : Nat} (h : (l ++ [x])[j]? = some y) : j = l.length ∧ y = x ∨ j < l.length ∧ l[j]? = some y := by
  by_cases e : j < l.length
  · rw [List.getElem?_append_left e] at h
    exact Or.inr ⟨e, h⟩
  · rw [List.getElem?_append_right (by omega)] at h
    by_cases e2 : j = l.length
    · subst e2
      rw [Nat.sub_self] at h
      exact Or.inl ⟨rfl, (Option.some.inj h).symm⟩
    · rw [List.getElem?_eq_none (by show 1 ≤ j - l.length; omega)] at h
      cases h
theorem putM {N x : Nat} {M0 M : xM} {l : List Nat} (h : WM M0 M l) (hl : l.length + 1 ≤ 654) (hx : x < 65536) : ∃ M1, F_X7_put N (nI x) M = some (M1, 0) ∧ WM M0 M1 (l ++ [x]) := by
  obtain ⟨⟨a1, a2⟩, a3, a4⟩ := h
  obtain ⟨M1, hM1⟩ : ∃ M1, M1 = xS M 1480 (upd (M.1 1480) l.length (nI x)) := ⟨_, rfl⟩
  obtain ⟨M2, hM2⟩ : ∃ M2, M2 = xS M1 1479 (upd (M1.1 1479) 1 (nI (l.length + 1))) := ⟨_, rfl⟩
  refine ⟨M2, ?_, ⟨?_, fun k k1 k2 => ?_⟩, ?_, fun j y hy => ?_⟩
  · unfold F_X7_put
    rw [a3, if_neg (show ¬ (654 : Int32) ≤ nI l.length from nI_ge (b := 654) (by omega) (by omega)), ck_nI (by omega) (by decide), nI_clamp (by omega), nar_ch hx, xl_v, ← hM1, show M1.1 1479 1 = nI l.length from by rw [hM1, xS_ne (by omega)]; exact a3, nI_1, xl_v, ← hM2]
  · rw [hM2, hM1]; exact a1
  · rw [hM2, xS_ne k1, hM1, xS_ne k2]; exact a2 k k1 k2
  · rw [hM2, xS_in, List.length_append]; rfl
  · have e : M2.1 1480 = upd (M.1 1480) l.length (nI x) := by rw [hM2, xS_ne (by omega), hM1, xS_at]
    rw [e]
    rcases get_app hy with ⟨rfl, rfl⟩ | ⟨q1, q2⟩
    · exact ⟨pk_us, hx⟩
    · rw [pk_un (by omega)]
      exact a4 j y q2
theorem putR {N x : Nat} {R0 R : xM} {l : List Nat} (h : WR R0 R l) (hl : l.length + 1 ≤ 654) (hx : x < 65536) : ∃ R1, F_X10_writesLetter N (nI x) R = some (R1, 0) ∧ WR R0 R1 (l ++ [x]) := by
  obtain ⟨⟨a1, a2⟩, a3, a4⟩ := h
  obtain ⟨R1, hR1⟩ : ∃ R1, R1 = xS R 9 (upd (R.1 9) l.length (nI x)) := ⟨_, rfl⟩
  obtain ⟨R2, hR2⟩ : ∃ R2, R2 = xS R1 0 (upd (R1.1 0) 19 (nI (l.length + 1))) := ⟨_, rfl⟩
  refine ⟨R2, ?_, ⟨fun p p1 p2 => ?_, fun s hs => ?_⟩, ?_, fun j y hy => ?_⟩
  · unfold F_X10_writesLetter
    rw [a3, ck_nI (by omega) (by decide), nI_clamp (by omega), nar_ch hx, xl_v, ← hR1, show R1.1 0 19 = nI l.length from by rw [hR1, xS_ne (by omega)]; exact a3, nI_1, xl_v, ← hR2]
  · rw [hR2, xS_ne p1, hR1, xS_ne p2]; exact a1 p p1 p2
  · rw [hR2, xS_f hs, hR1, xS_ne (by omega)]; exact a2 s hs
  · rw [hR2, xS_in, List.length_append]; rfl
  · have e : R2.1 9 = upd (R.1 9) l.length (nI x) := by rw [hR2, xS_ne (by omega), hR1, xS_at]
    rw [e]
    rcases get_app hy with ⟨rfl, rfl⟩ | ⟨q1, q2⟩
    · exact ⟨pk_us, hx⟩
    · rw [pk_un (by omega)]
      exact a4 j y q2
def dig (n : Nat) : List Nat := if n < 10 then [48 + n] else if n < 100 then [48 + n / 10, 48 + n % 10] else [48 + n / 100, 48 + n / 10 % 10, 48 + n % 10]
theorem dig1 {n : Nat} (h : n < 10) : dig n = [48 + n] := if_pos h
theorem dig2 {n : Nat} (h0 : ¬ n < 10) (h : n < 100) : dig n = [48 + n / 10, 48 + n % 10] := (if_neg h0).trans (if_pos h)
theorem dig3 {n : Nat} (h0 : ¬ n < 10) (h : ¬ n < 100) : dig n = [48 + n / 100, 48 + n / 10 % 10, 48 + n % 10] := (if_neg h0).trans (if_neg h)
theorem dig_len {n : Nat} : (dig n).length ≤ 3 ∧ (n < 10 → (dig n).length = 1) ∧ (n < 100 → (dig n).length ≤ 2) := by
  unfold dig
  split
  · exact ⟨by show 1 ≤ 3; omega, fun _ => rfl, fun _ => by show 1 ≤ 2; omega⟩
  · split
    · exact ⟨by show 2 ≤ 3; omega, fun h => by omega, fun _ => by show 2 ≤ 2; omega⟩
    · exact ⟨by show 3 ≤ 3; omega, fun h => by omega, fun h => by omega⟩
/-- a digit of n, as both compute it -/
theorem digit {n p : Nat} (hn : n < 1000) (hp : 0 < p) (hp2 : p ≤ 100) : (((48 : Int32) + ((nI n / nI p) - (nI n / nI p) / 10 * 10)).toUInt32 % 65536).toInt32 = nI (48 + n / p % 10) := by
  have h1 : n / p ≤ n := Nat.div_le_self n p
  have h2 : n / p % 10 < 10 := Nat.mod_lt _ (by decide)
  rw [pk_div (by omega) hp (by omega), show nI (n / p) - nI (n / p) / 10 * 10 = nI (n / p % 10) from pk_rem (d := 10) (by omega) (by decide) (by decide), show (48 : Int32) + nI (n / p % 10) = nI (48 + n / p % 10) from nI_add 48 _, pk_char, pk_tn (by omega), Nat.mod_eq_of_lt (by omega)]
theorem c_nz {p : Nat} {α : Type} {a : Option α} (h : 0 < p) (h2 : p ≤ 100) : xck (nI p != 0) a = a := by
  have : (nI p != 0) = true := by
    rw [bne_iff_ne]
    exact nI_ne0 h (by omega)
  rw [this]
  rfl
theorem put18 {N n p : Nat} {M0 M : xM} {l : List Nat} {K : Int32 → Int32 → xM → Option xR} (hn : n < 1000) (hp : 0 < p) (hp2 : p ≤ 100) (h : WM M0 M l) (hl : l.length + 1 ≤ 654) : ∃ M1, L_X7_putNumber_18 N (L_X7_putNumber_32 N K) (nI n) (nI p) M = K (nI n) (nI (p / 10)) M1 ∧ WM M0 M1 (l ++ [48 + n / p % 10]) := by
  have h2 : n / p % 10 < 10 := Nat.mod_lt _ (by decide)
  obtain ⟨M1, e1, e2⟩ := putM (N := N) (x := 48 + n / p % 10) h hl (by omega)
  refine ⟨M1, ?_, e2⟩
  unfold L_X7_putNumber_18
  rw [c_nz hp hp2, digit hn hp hp2, e1, xbd_some]
  unfold L_X7_putNumber_32
  rw [show nI p / 10 = nI (p / 10) from pk_div (d := 10) (by omega) (by decide) (by decide), xl_v]
theorem numM {N n : Nat} {M0 M : xM} {l : List Nat} (hN : 20 ≤ N) (hn : n < 1000) (h : WM M0 M l) (hl : l.length + (dig n).length ≤ 654) : ∃ M1, F_X7_putNumber N (nI n) M = some (M1, 0) ∧ WM M0 M1 (l ++ dig n) := by
  obtain ⟨m, hm⟩ : ∃ m, N = m + 4 := ⟨N - 4, by omega⟩
  have last : ∀ (t : Nat) (M : xM) (l : List Nat), WM M0 M l → l.length + 1 ≤ 654 → ∃ M1, L_X7_putNumber_3 N (t + 2) (nI n) (nI 1) M = some (M1, 0) ∧ WM M0 M1 (l ++ [48 + n % 10]) := fun t M l h hl => by
    obtain ⟨M1, e1, e2⟩ := put18 (N := N) (K := L_X7_putNumber_3 N (t + 1)) (p := 1) hn (by decide) (by decide) h hl
    rw [Nat.div_one] at e2
    refine ⟨M1, ?_, e2⟩
    have e3 : L_X7_putNumber_3 N (t + 1) (nI n) (nI (1 / 10)) M1 = some (M1, 0) := by
      rw [L_X7_putNumber_3, if_pos (show nI (1 / 10) < (1 : Int32) from by decide)]
    rw [L_X7_putNumber_3, if_neg (show ¬ nI 1 < (1 : Int32) from by decide)]
    by_cases q : nI 1 ≤ nI n
    · rw [if_pos q]
      exact e1.trans e3
    · rw [if_neg q, if_pos (show nI 1 = (1 : Int32) from rfl)]
      exact e1.trans e3
  have mid : ∀ (t : Nat) (M : xM) (l : List Nat), WM M0 M l → (if n < 10 then l.length + 1 ≤ 654 else l.length + 2 ≤ 654) → ∃ M1, L_X7_putNumber_3 N (t + 3) (nI n) (nI 10) M = some (M1, 0) ∧ WM M0 M1 (l ++ (if n < 10 then [48 + n % 10] else [48 + n / 10 % 10, 48 + n % 10])) := fun t M l h hl => by
    rw [L_X7_putNumber_3, if_neg (show ¬ nI 10 < (1 : Int32) from by decide)]
    by_cases q : n < 10
    · rw [if_pos q] at hl ⊢
      rw [if_neg (nI_ge q (by omega)), if_neg (show ¬ nI 10 = (1 : Int32) from by decide)]
      unfold L_X7_putNumber_32
      rw [show nI 10 / 10 = nI 1 from by decide, xl_v]
      exact last t M l h hl
    · rw [if_neg q] at hl ⊢
      rw [if_pos (nI_le (by omega) (by omega))]
      obtain ⟨M1, e1, e2⟩ := put18 (N := N) (K := L_X7_putNumber_3 N (t + 2)) (p := 10) hn (by decide) (by decide) h (by omega)
      obtain ⟨M2, e3, e4⟩ := last t M1 _ e2 (by rw [List.length_append]; show l.length + 1 + 1 ≤ 654; omega)
      refine ⟨M2, e1.trans e3, ?_⟩
      rw [List.append_assoc] at e4
      exact e4
  unfold F_X7_putNumber
  rw [show L_X7_putNumber_3 N N (nI n) 100 M = L_X7_putNumber_3 N (m + 4) (nI n) (nI 100) M from by rw [← hm]; rfl, L_X7_putNumber_3, if_neg (show ¬ nI 100 < (1 : Int32) from by decide)]
  by_cases q : n < 100
  · rw [if_neg (nI_ge q (by omega)), if_neg (show ¬ nI 100 = (1 : Int32) from by decide)]
    unfold L_X7_putNumber_32
    rw [show nI 100 / 10 = nI 10 from by decide, xl_v]
    by_cases q2 : n < 10
    · rw [dig1 q2] at hl ⊢
      have hl : l.length + 1 ≤ 654 := hl
      obtain ⟨M1, e1, e2⟩ := mid m M l h (by rw [if_pos q2]; exact hl)
      rw [if_pos q2, Nat.mod_eq_of_lt q2] at e2
      exact ⟨M1, e1, e2⟩
    · rw [dig2 q2 q] at hl ⊢
      have hl : l.length + 2 ≤ 654 := hl
      obtain ⟨M1, e1, e2⟩ := mid m M l h (by rw [if_neg q2]; exact hl)
      rw [if_neg q2, Nat.mod_eq_of_lt (show n / 10 < 10 by omega)] at e2
      exact ⟨M1, e1, e2⟩
  · have q2 : ¬ n < 10 := by omega
    rw [dig3 q2 q] at hl ⊢
    have hl : l.length + 3 ≤ 654 := hl
    rw [if_pos (nI_le (by omega) (by omega))]
    obtain ⟨M1, e1, e2⟩ := put18 (N := N) (K := L_X7_putNumber_3 N (m + 3)) (p := 100) hn (by decide) (by decide) h (by omega)
    obtain ⟨M2, e3, e4⟩ := mid m M1 _ e2 (by rw [if_neg q2, List.length_append]; show l.length + 1 + 2 ≤ 654; omega)
    rw [if_neg q2, List.append_assoc, Nat.mod_eq_of_lt (show n / 100 < 10 by omega)] at e4
    exact ⟨M2, e1.trans e3, e4⟩
theorem numR {N n : Nat} {R0 R : xM} {l : List Nat} (hN : 20 ≤ N) (hn : n < 1000) (h : WR R0 R l) (hl : l.length + (dig n).length ≤ 654) : ∃ R1, F_X10_writesNumber N (nI n) R = some (R1, 0) ∧ WR R0 R1 (l ++ dig n) := by
  have one : ∀ (t p : Nat) (R : xM) (l : List Nat), 0 < p → p ≤ 100 → WR R0 R l → l.length + 1 ≤ 654 → ∃ R1, L_X10_writesNumber_20 N (t + 1) (nI n) (nI p) R = L_X10_writesNumber_20 N t (nI n) (nI (p / 10)) R1 ∧ WR R0 R1 (l ++ [48 + n / p % 10]) := fun t p R l hp hp2 h hl => by
    have h2 : n / p % 10 < 10 := Nat.mod_lt _ (by decide)
    obtain ⟨R1, e1, e2⟩ := putR (N := N) (x := 48 + n / p % 10) h hl (by omega)
    refine ⟨R1, ?_, e2⟩
    rw [L_X10_writesNumber_20, if_neg (nI_nle hp (by omega)), c_nz hp hp2, digit hn hp hp2, e1, xbd_some, show nI p / 10 = nI (p / 10) from pk_div (d := 10) (by omega) (by decide) (by decide), xl_v]
  have stop : ∀ (t : Nat) (R : xM), L_X10_writesNumber_20 N (t + 1) (nI n) (nI (1 / 10)) R = some (R, 0) := fun t R => by
    rw [L_X10_writesNumber_20, if_pos (show nI (1 / 10) ≤ (0 : Int32) from by decide)]
  obtain ⟨m, hm⟩ : ∃ m, N = m + 4 := ⟨N - 4, by omega⟩
  have up : ∀ (t p : Nat) (R : xM), p ≤ 100 → L_X10_writesNumber_2 N (t + 1) (nI n) (nI p) R = if n < p * 10 then L_X10_writesNumber_20 N N (nI n) (nI p) R else L_X10_writesNumber_2 N t (nI n) (nI (p * 10)) R := fun t p R hp => by
    rw [L_X10_writesNumber_2, show nI p * 10 = nI (p * 10) from pk_mul p 10]
    by_cases q : n < p * 10
    · rw [if_pos q, if_pos (nI_lt q (by omega))]
    · rw [if_neg q, if_neg (nI_nlt (by omega) (by omega)), xl_v]
  unfold F_X10_writesNumber
  rw [show L_X10_writesNumber_2 N N (nI n) 1 R = L_X10_writesNumber_2 N (m + 3 + 1) (nI n) (nI 1) R from by rw [hm]; rfl, up _ _ _ (by decide)]
  by_cases q2 : n < 10
  · rw [if_pos (show n < 1 * 10 by omega)]
    rw [dig1 q2] at hl ⊢
    have hl : l.length + 1 ≤ 654 := hl
    obtain ⟨R1, e1, e2⟩ := one (m + 3) 1 R l (by decide) (by decide) h hl
    rw [Nat.div_one, Nat.mod_eq_of_lt q2] at e2
    refine ⟨R1, ?_, e2⟩
    rw [show L_X10_writesNumber_20 N N (nI n) (nI 1) R = L_X10_writesNumber_20 N (m + 3 + 1) (nI n) (nI 1) R from by rw [hm], e1]
    exact stop (m + 2) R1
  · rw [if_neg (show ¬ n < 1 * 10 by omega), show 1 * 10 = 10 from rfl, up (m + 2) 10 _ (by decide)]
    by_cases q : n < 100
    · rw [if_pos (show n < 10 * 10 by omega)]
      rw [dig2 q2 q] at hl ⊢
      have hl : l.length + 2 ≤ 654 := hl
      obtain ⟨R1, e1, e2⟩ := one (m + 3) 10 R l (by decide) (by decide) h (by omega)
      obtain ⟨R2, e3, e4⟩ := one (m + 2) 1 R1 _ (by decide) (by decide) e2 (by rw [List.length_append]; show l.length + 1 + 1 ≤ 654; omega)
      rw [List.append_assoc, Nat.div_one, Nat.mod_eq_of_lt (show n / 10 < 10 by omega)] at e4
      refine ⟨R2, ?_, e4⟩
      rw [show L_X10_writesNumber_20 N N (nI n) (nI 10) R = L_X10_writesNumber_20 N (m + 3 + 1) (nI n) (nI 10) R from by rw [hm], e1]
      exact e3.trans (stop (m + 1) R2)
    · rw [if_neg (show ¬ n < 10 * 10 by omega), show 10 * 10 = 100 from rfl, up (m + 1) 100 _ (by decide), if_pos (show n < 100 * 10 by omega)]
      rw [dig3 q2 q] at hl ⊢
      have hl : l.length + 3 ≤ 654 := hl
      obtain ⟨R1, e1, e2⟩ := one (m + 3) 100 R l (by decide) (by decide) h (by omega)
      obtain ⟨R2, e3, e4⟩ := one (m + 2) 10 R1 _ (by decide) (by decide) e2 (by rw [List.length_append]; show l.length + 1 + 1 ≤ 654; omega)
      obtain ⟨R3, e5, e6⟩ := one (m + 1) 1 R2 _ (by decide) (by decide) e4 (by rw [List.length_append, List.length_append]; show l.length + 1 + 1 + 1 ≤ 654; omega)
      rw [List.append_assoc, List.append_assoc, Nat.div_one, Nat.mod_eq_of_lt (show n / 100 < 10 by omega)] at e6
      refine ⟨R3, ?_, e6⟩
      rw [show L_X10_writesNumber_20 N N (nI n) (nI 100) R = L_X10_writesNumber_20 N (m + 3 + 1) (nI n) (nI 100) R from by rw [hm], e1]
      exact (e3.trans e5).trans (stop m R3)
