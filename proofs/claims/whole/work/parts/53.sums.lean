/-! sums -/
theorem stepsInside_ok {N p L : Nat} {M : xM} {f : Nat → Nat} (hN : 20 ≤ N) (hL : L ≤ 12) (h6 : M.1 p 6 = nI L) (hf : ∀ j, j < L → M.1 (p + 3) j = nI (f j)) : F_X2_stepsInside N p M = some (M, nI (sumN f L)) := by
  have loop : ∀ n i, i ≤ L → L < n + i → L_X2_stepsInside_4 N p n (nI (sumN f i)) (nI i) M = some (M, nI (sumN f L)) := by
    intro n
    induction n with
    | zero => intro i a1 a2; omega
    | succ n ih =>
      intro i a1 a2
      rw [L_X2_stepsInside_4, h6]
      by_cases hi : i = L
      · subst hi
        rw [if_pos (nI_le (Nat.le_refl _) (by omega))]
      · rw [if_neg (nI_ge (a := i) (b := L) (by omega) (by omega)), ck_nI (by omega) (by decide), nI_clamp (by omega), hf i (by omega), nI_add, xl_v, nI_1, xl_v]
        exact ih (i + 1) (by omega) (by omega)
  exact loop N 0 (by omega) (by omega)
theorem inCanister_ok {N c : Nat} {R : xM} {G : Nat → Nat} (hN : 20 ≤ N) (hR : ∀ i, i < 1460 → R.1 1 i = nI (G i)) (hc : c < 8) (hL : G (5 + 46 * c + 3) ≤ 12) : F_X10_inCanister N (nI c) R = some (R, nI (inC G c)) := by
  have loop : ∀ n i, i ≤ G (5 + 46 * c + 3) → G (5 + 46 * c + 3) < n + i → L_X10_inCanister_4 N n (nI c) (nI (sumN (fun j => G (5 + 46 * c + 19 + j)) i)) (nI i) R = some (R, nI (inC G c)) := by
    intro n
    induction n with
    | zero => intro i a1 a2; omega
    | succ n ih =>
      intro i a1 a2
      rw [L_X10_inCanister_4, show F_X10_colorantAt N (nI c) 3 R = _ from rdC (k := 3) hR hc (by omega), xbd_some]
      by_cases hi : i = G (5 + 46 * c + 3)
      · rw [if_pos (show (R, nI (G (5 + 46 * c + 3))).2 ≤ nI i from nI_le (by omega) (by omega)), hi]
        rfl
      · rw [if_neg (show ¬ (R, nI (G (5 + 46 * c + 3))).2 ≤ nI i from nI_ge (a := i) (by omega) (by omega)), show (19 : Int32) + nI i = nI (19 + i) from nI_add 19 i, show F_X10_colorantAt N (nI c) (nI (19 + i)) (R, nI (G (5 + 46 * c + 3))).1 = _ from rdC hR hc (by omega), xbd_some, show 5 + 46 * c + (19 + i) = 5 + 46 * c + 19 + i by omega, nI_add, xl_v, nI_1, xl_v]
        exact ih (i + 1) (by omega) (by omega)
  exact loop N 0 (by omega) (by omega)
/-- the class's canister of a desk -/
theorem DS.steps {N c : Nat} {M : xM} {r : Nat → Int32} {G : Nat → Nat} {B : Nat → Nat → Nat → Bool} (h : DS M 0 r G B) (hN : 20 ≤ N) (hc : c < 8) {p : Nat} (hp : p = 5 + 5 * c) : F_X2_stepsInside N p M = some (M, nI (inC G c)) := by
  subst hp
  have hn := (h.2.2.2.2.2.1 c hc).1
  exact stepsInside_ok hN hn (h.m (loc_c c hc).2.1 (vis_c hc (by omega) (by omega)) (by omega)) (fun j hj => h.m (loc_l c hc j (by omega)).2.1 (vis_l hc (by omega) (by omega) hj) (by omega))
