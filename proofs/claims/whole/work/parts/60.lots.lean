/-! canisters as lists of lots (number, steps, last day) -/
abbrev LT : Type := Nat × Nat × Nat
def Rows (A2 A3 A4 : Nat → Int32) (f : Nat → Option LT) : Prop := ∀ j x, f j = some x → A2 j = nI x.1 ∧ A3 j = nI x.2.1 ∧ A4 j = nI x.2.2
def CM (M : xM) (p : Nat) (l : List LT) : Prop := M.1 p 6 = nI l.length ∧ Rows (M.1 (p + 2)) (M.1 (p + 3)) (M.1 (p + 4)) (fun j => l[j]?)
def CR (r : Nat → Int32) (o : Nat) (l : List LT) : Prop := r (o + 3) = nI l.length ∧ Rows (fun j => r (o + 7 + j)) (fun j => r (o + 19 + j)) (fun j => r (o + 31 + j)) (fun j => l[j]?)
/-- lots go: nothing else of the class, of the reference -/
def FrM (p : Nat) (M M1 : xM) : Prop := M1.2 = M.2 ∧ (∀ k, k ≠ p → k ≠ p + 2 → k ≠ p + 3 → k ≠ p + 4 → M1.1 k = M.1 k) ∧ ∀ s, s ≠ 6 → M1.1 p s = M.1 p s
def FrR (o : Nat) (R R1 : xM) : Prop := R1.2 = R.2 ∧ (∀ k, k ≠ 1 → R1.1 k = R.1 k) ∧ ∀ j, j ≠ o + 3 → (j < o + 7 ∨ o + 43 ≤ j) → R1.1 1 j = R.1 1 j
theorem FrM.rf {p : Nat} {M : xM} : FrM p M M := ⟨rfl, fun _ _ _ _ _ => rfl, fun _ _ => rfl⟩
theorem FrR.rf {p : Nat} {M : xM} : FrR p M M := ⟨rfl, fun _ _ => rfl, fun _ _ _ => rfl⟩
theorem FrM.tr {p : Nat} {M M1 M2 : xM} (h : FrM p M M1) (h2 : FrM p M1 M2) : FrM p M M2 := ⟨h2.1.trans h.1, fun k a b c d => (h2.2.1 k a b c d).trans (h.2.1 k a b c d), fun s hs => (h2.2.2 s hs).trans (h.2.2 s hs)⟩
theorem FrR.tr {p : Nat} {M M1 M2 : xM} (h : FrR p M M1) (h2 : FrR p M1 M2) : FrR p M M2 := ⟨h2.1.trans h.1, fun k a => (h2.2.1 k a).trans (h.2.1 k a), fun s hs hs2 => (h2.2.2 s hs hs2).trans (h.2.2 s hs hs2)⟩
/-- shifted down from i up to t -/
def shF (l : List LT) (i t j : Nat) : Option LT := if i ≤ j ∧ j < t then l[j + 1]? else l[j]?
theorem shF_0 {l : List LT} {i : Nat} : shF l i i = fun j => l[j]? := by
  funext j
  exact if_neg (by omega)
theorem shF_end {l : List LT} {i : Nat} (hi : i < l.length) {j : Nat} {x : LT} (h : (l.eraseIdx i)[j]? = some x) : shF l i (l.length - 1) j = some x := by
  rw [List.getElem?_eraseIdx] at h
  unfold shF
  by_cases hj : j < i
  · rw [if_pos hj] at h
    rw [if_neg (by omega)]
    exact h
  · rw [if_neg hj] at h
    have hl : j + 1 < l.length := by
      rcases Nat.lt_or_ge (j + 1) l.length with q | q
      · exact q
      · rw [List.getElem?_eq_none q] at h
        cases h
    rw [if_pos (by omega)]
    exact h
theorem len_erase {l : List LT} {i : Nat} (hi : i < l.length) : (l.eraseIdx i).length = l.length - 1 := List.length_eraseIdx_of_lt hi
theorem dropLot_ok {N p i : Nat} {M : xM} {l : List LT} (hN : 30 ≤ N) (h : CM M p l) (hl : l.length ≤ 12) (hi : i < l.length) : ∃ M1, F_X2_dropLot N p (nI i) M = some (M1, 0) ∧ CM M1 p (l.eraseIdx i) ∧ FrM p M M1 := by
  have loop : ∀ n t M0, i ≤ t → t ≤ l.length - 1 → l.length ≤ n + t → M0.1 p 6 = nI l.length → Rows (M0.1 (p + 2)) (M0.1 (p + 3)) (M0.1 (p + 4)) (shF l i t) → ∃ M1, L_X2_dropLot_2 N p n (nI t) M0 = some (M1, 0) ∧ CM M1 p (l.eraseIdx i) ∧ FrM p M0 M1 := by
    intro n
    induction n with
    | zero => intro t M0 a1 a2 a3; omega
    | succ n ih =>
      intro t M0 a1 a2 a3 e6 er
      rw [L_X2_dropLot_2, e6, show nI l.length - 1 = nI (l.length - 1) from pk_sub (b := 1) (by omega)]
      by_cases ht : t = l.length - 1
      · rw [if_pos (nI_le (by omega) (by omega)), xl_v]
        refine ⟨_, rfl, ⟨?_, fun j x hx => ?_⟩, rfl, fun k a b c d => xS_ne a, fun s hs => xS_f hs⟩
        · rw [xS_in, len_erase hi]
        · rw [xS_ne (by omega), xS_ne (by omega), xS_ne (by omega)]
          refine er j x ?_
          rw [ht]
          exact shF_end hi hx
      · rw [if_neg (nI_ge (a := t) (b := l.length - 1) (by omega) (by omega)), nI_1, ck_nI (by omega) (by decide), ck_nI (by omega) (by decide), nI_clamp (by omega), nI_clamp (by omega), xl_v]
        obtain ⟨M1, hM1⟩ : ∃ M1, M1 = xS M0 (p + 2) (upd (M0.1 (p + 2)) t (M0.1 (p + 2) (t + 1))) := ⟨_, rfl⟩
        rw [← hM1, ck_nI (by omega) (by decide), ck_nI (by omega) (by decide), xl_v]
        obtain ⟨M2, hM2⟩ : ∃ M2, M2 = xS M1 (p + 3) (upd (M1.1 (p + 3)) t (M1.1 (p + 3) (t + 1))) := ⟨_, rfl⟩
        rw [← hM2, ck_nI (by omega) (by decide), ck_nI (by omega) (by decide), xl_v, xl_v]
        obtain ⟨M3, hM3⟩ : ∃ M3, M3 = xS M2 (p + 4) (upd (M2.1 (p + 4)) t (M2.1 (p + 4) (t + 1))) := ⟨_, rfl⟩
        rw [← hM3]
        have f2 : M3.1 (p + 2) = upd (M0.1 (p + 2)) t (M0.1 (p + 2) (t + 1)) := by rw [hM3, xS_ne (by omega), hM2, xS_ne (by omega), hM1, xS_at]
        have f3 : M3.1 (p + 3) = upd (M0.1 (p + 3)) t (M0.1 (p + 3) (t + 1)) := by rw [hM3, xS_ne (by omega), hM2, xS_at, hM1, xS_ne (by omega)]
        have f4 : M3.1 (p + 4) = upd (M0.1 (p + 4)) t (M0.1 (p + 4) (t + 1)) := by rw [hM3, xS_at, hM2, xS_ne (by omega), hM1, xS_ne (by omega)]
        have f0 : ∀ k, k ≠ p + 2 → k ≠ p + 3 → k ≠ p + 4 → M3.1 k = M0.1 k := fun k a b c => by rw [hM3, xS_ne c, hM2, xS_ne b, hM1, xS_ne a]
        have f9 : M3.2 = M0.2 := by rw [hM3, hM2, hM1]; rfl
        obtain ⟨M4, g1, g2, g3⟩ := ih (t + 1) M3 (by omega) (by omega) (by omega) (by rw [f0 p (by omega) (by omega) (by omega)]; exact e6) (fun j x hx => by
          rw [f2, f3, f4]
          by_cases hj : j = t
          · subst hj
            rw [pk_us, pk_us, pk_us]
            refine er (j + 1) x ?_
            unfold shF at hx ⊢
            rw [if_pos (by omega)] at hx
            rw [if_neg (by omega)]
            exact hx
          · rw [pk_un hj, pk_un hj, pk_un hj]
            refine er j x ?_
            unfold shF at hx ⊢
            by_cases hc : i ≤ j ∧ j < t
            · rw [if_pos (by omega)] at hx
              rw [if_pos hc]
              exact hx
            · rw [if_neg (by omega)] at hx
              rw [if_neg hc]
              exact hx)
        exact ⟨M4, g1, g2, FrM.tr ⟨f9, fun k a b c d => f0 k b c d, fun s hs => by rw [f0 p (by omega) (by omega) (by omega)]⟩ g3⟩
  obtain ⟨M1, g1, g2, g3⟩ := loop N i M (Nat.le_refl _) (by omega) (by omega) h.1 (by rw [shF_0]; exact h.2)
  exact ⟨M1, g1, g2, g3⟩
theorem goes_ok {N c i : Nat} {R : xM} {l : List LT} (hN : 30 ≤ N) (hc : c < 8) (h : CR (R.1 1) (5 + 46 * c) l) (hl : l.length ≤ 12) (hi : i < l.length) : ∃ R1, F_X10_goes N (nI c) (nI i) R = some (R1, 0) ∧ CR (R1.1 1) (5 + 46 * c) (l.eraseIdx i) ∧ FrR (5 + 46 * c) R R1 := by
  obtain ⟨o, ho⟩ : ∃ o, o = 5 + 46 * c := ⟨_, rfl⟩
  have loop : ∀ n t R0, i ≤ t → t ≤ l.length - 1 → l.length ≤ n + t → R0.1 1 (o + 3) = nI l.length → Rows (fun j => R0.1 1 (o + 7 + j)) (fun j => R0.1 1 (o + 19 + j)) (fun j => R0.1 1 (o + 31 + j)) (shF l i t) → ∃ R1, L_X10_goes_10 N n (nI o) (nI t) R0 = some (R1, 0) ∧ CR (R1.1 1) o (l.eraseIdx i) ∧ FrR o R0 R1 := by
    intro n
    induction n with
    | zero => intro t M0 a1 a2 a3; omega
    | succ n ih =>
      intro t R0 a1 a2 a3 e6 er
      rw [L_X10_goes_10, show nI o + 3 = nI (o + 3) from nI_add o 3, ck_nI (by omega) (by decide), nI_clamp (by omega), e6, show nI l.length - 1 = nI (l.length - 1) from pk_sub (b := 1) (by omega)]
      by_cases ht : t = l.length - 1
      · rw [if_pos (nI_le (by omega) (by omega)), ck_nI (by omega) (by decide), ck_nI (by omega) (by decide), xl_v]
        refine ⟨_, rfl, ⟨?_, fun j x hx => ?_⟩, rfl, fun k a => xS_ne a, fun s hs _ => xS_f hs⟩
        · rw [xS_in, len_erase hi]
        · have hx : (l.eraseIdx i)[j]? = some x := hx
          have hj : j < 12 := by
            rcases Nat.lt_or_ge j (l.eraseIdx i).length with q | q
            · rw [len_erase hi] at q; omega
            · rw [List.getElem?_eq_none q] at hx; cases hx
          dsimp only
          rw [xS_f (by omega), xS_f (by omega), xS_f (by omega)]
          refine er j x ?_
          rw [ht]
          exact shF_end hi hx
      · rw [if_neg (nI_ge (a := t) (b := l.length - 1) (by omega) (by omega)), show nI o + 7 + nI t = nI (o + 7 + t) from by show nI o + nI 7 + nI t = _; rw [nI_add, nI_add], nI_1, ck_nI (by omega) (by decide), ck_nI (by omega) (by decide), nI_clamp (by omega), nI_clamp (by omega), xl_v]
        obtain ⟨M1, hM1⟩ : ∃ M1, M1 = xS R0 1 (upd (R0.1 1) (o + 7 + t) (R0.1 1 (o + 7 + t + 1))) := ⟨_, rfl⟩
        rw [← hM1, show nI o + 19 + nI t = nI (o + 19 + t) from by show nI o + nI 19 + nI t = _; rw [nI_add, nI_add], nI_1, ck_nI (by omega) (by decide), ck_nI (by omega) (by decide), nI_clamp (by omega), nI_clamp (by omega), xl_v]
        obtain ⟨M2, hM2⟩ : ∃ M2, M2 = xS M1 1 (upd (M1.1 1) (o + 19 + t) (M1.1 1 (o + 19 + t + 1))) := ⟨_, rfl⟩
        rw [← hM2, show nI o + 31 + nI t = nI (o + 31 + t) from by show nI o + nI 31 + nI t = _; rw [nI_add, nI_add], nI_1, ck_nI (by omega) (by decide), ck_nI (by omega) (by decide), nI_clamp (by omega), nI_clamp (by omega), xl_v, nI_1, xl_v]
        obtain ⟨M3, hM3⟩ : ∃ M3, M3 = xS M2 1 (upd (M2.1 1) (o + 31 + t) (M2.1 1 (o + 31 + t + 1))) := ⟨_, rfl⟩
        rw [← hM3]
        have f2 : M3.1 1 (o + 7 + t) = R0.1 1 (o + 7 + t + 1) := by rw [hM3, xS_f (by omega), hM2, xS_f (by omega), hM1, xS_in]
        have f3 : M3.1 1 (o + 19 + t) = R0.1 1 (o + 19 + t + 1) := by rw [hM3, xS_f (by omega), hM2, xS_in, hM1, xS_f (by omega)]
        have f4 : M3.1 1 (o + 31 + t) = R0.1 1 (o + 31 + t + 1) := by rw [hM3, xS_in, hM2, xS_f (by omega), hM1, xS_f (by omega)]
        have f0 : ∀ k, k ≠ o + 7 + t → k ≠ o + 19 + t → k ≠ o + 31 + t → M3.1 1 k = R0.1 1 k := fun k a b c => by rw [hM3, xS_f c, hM2, xS_f b, hM1, xS_f a]
        have f8 : ∀ k, k ≠ 1 → M3.1 k = R0.1 k := fun k a => by rw [hM3, xS_ne a, hM2, xS_ne a, hM1, xS_ne a]
        have f9 : M3.2 = R0.2 := by rw [hM3, hM2, hM1]; rfl
        obtain ⟨M4, g1, g2, g3⟩ := ih (t + 1) M3 (by omega) (by omega) (by omega) (by rw [f0 _ (by omega) (by omega) (by omega)]; exact e6) (fun j x hx => by
          dsimp only
          have hj12 : j < 12 := by
            unfold shF at hx
            by_cases hc : i ≤ j ∧ j < t + 1
            · omega
            · rw [if_neg hc] at hx
              rcases Nat.lt_or_ge j l.length with q | q
              · omega
              · rw [List.getElem?_eq_none q] at hx; cases hx
          by_cases hj : j = t
          · subst hj
            rw [f2, f3, f4]
            refine er (j + 1) x ?_
            unfold shF at hx ⊢
            rw [if_pos (by omega)] at hx
            rw [if_neg (by omega)]
            exact hx
          · rw [f0 _ (by omega) (by omega) (by omega), f0 _ (by omega) (by omega) (by omega), f0 _ (by omega) (by omega) (by omega)]
            refine er j x ?_
            unfold shF at hx ⊢
            by_cases hc : i ≤ j ∧ j < t
            · rw [if_pos (by omega)] at hx
              rw [if_pos hc]
              exact hx
            · rw [if_neg (by omega)] at hx
              rw [if_neg hc]
              exact hx)
        exact ⟨M4, g1, g2, FrR.tr ⟨f9, f8, fun s hs hs2 => f0 s (by omega) (by omega) (by omega)⟩ g3⟩
  obtain ⟨M1, g1, g2, g3⟩ := loop N i R (Nat.le_refl _) (by omega) (by omega) (by rw [ho]; exact h.1) (by rw [shF_0, ho]; exact h.2)
  subst ho
  refine ⟨M1, ?_, g2, g3⟩
  unfold F_X10_goes
  rw [show (5 : Int32) + 46 * nI c = nI (5 + 46 * c) from by show nI 5 + nI 46 * nI c = _; rw [pk_mul, nI_add], xl_v]
  exact g1
