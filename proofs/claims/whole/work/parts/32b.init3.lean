theorem cHs_cong {Γ : xG} {f g : Nat → Nat} (h : ∀ j, j < 1178 → f j = g j) {r : Nat} (hr : r < 1178) : cHs Γ f 8 r = cHs Γ g 8 r := cHs_low (m := 8) (Nat.le_refl _) rfl hr h
def cTint (Γ : xG) (ad : Nat → Nat) : Nat → va_E := fun k =>
  if k < 1 then .inr (11, [.ref (ad 1), .ref (ad 148), .int 0, .ref (ad 295), .ref (ad 1473), .int (-1), .int 0, .int (-1), .ref (ad 1476), .ref (ad 1479)])
  else if k < 148 then cDesk Γ (fun j => ad (1 + j)) (k - 1)
  else if k < 295 then cDesk Γ (fun j => ad (148 + j)) (k - 148)
  else if k < 1473 then cHs Γ (fun j => ad (295 + j)) 8 (k - 295)
  else if k < 1476 then cFormulaText Γ (fun j => ad (1473 + j)) (k - 1473)
  else if k < 1479 then cLeastCorrection Γ (fun j => ad (1476 + j)) (k - 1476)
  else cLabelWriter Γ (fun j => ad (1479 + j)) (k - 1479)
def yAll (h0 : Nat) (a1 a2 a3 a4 a5 a6 : Nat → Nat) : Nat → Nat := yCat 1479 (yCat 1476 (yCat 1473 (yCat 295 (yCat 148 (yCat 1 (fun _ => h0) a1) a2) a3) a4) a5) a6
theorem yA0 {h0 : Nat} {a1 a2 a3 a4 a5 a6 : Nat → Nat} {k : Nat} (h : k < 1) : yAll h0 a1 a2 a3 a4 a5 a6 k = h0 := by
  unfold yAll
  rw [yCat_lt (by omega), yCat_lt (by omega), yCat_lt (by omega), yCat_lt (by omega), yCat_lt (by omega), yCat_lt (by omega)]
theorem yA1 {h0 : Nat} {a1 a2 a3 a4 a5 a6 : Nat → Nat} {k : Nat} (h : k < 147) : yAll h0 a1 a2 a3 a4 a5 a6 (1 + k) = a1 k := by
  unfold yAll
  rw [yCat_lt (by omega), yCat_lt (by omega), yCat_lt (by omega), yCat_lt (by omega), yCat_lt (by omega), yCat_ge (by omega), Nat.add_sub_cancel_left]
theorem yA2 {h0 : Nat} {a1 a2 a3 a4 a5 a6 : Nat → Nat} {k : Nat} (h : k < 147) : yAll h0 a1 a2 a3 a4 a5 a6 (148 + k) = a2 k := by
  unfold yAll
  rw [yCat_lt (by omega), yCat_lt (by omega), yCat_lt (by omega), yCat_lt (by omega), yCat_ge (by omega), Nat.add_sub_cancel_left]
theorem yA3 {h0 : Nat} {a1 a2 a3 a4 a5 a6 : Nat → Nat} {k : Nat} (h : k < 1178) : yAll h0 a1 a2 a3 a4 a5 a6 (295 + k) = a3 k := by
  unfold yAll
  rw [yCat_lt (by omega), yCat_lt (by omega), yCat_lt (by omega), yCat_ge (by omega), Nat.add_sub_cancel_left]
theorem yA4 {h0 : Nat} {a1 a2 a3 a4 a5 a6 : Nat → Nat} {k : Nat} (h : k < 3) : yAll h0 a1 a2 a3 a4 a5 a6 (1473 + k) = a4 k := by
  unfold yAll
  rw [yCat_lt (by omega), yCat_lt (by omega), yCat_ge (by omega), Nat.add_sub_cancel_left]
theorem yA5 {h0 : Nat} {a1 a2 a3 a4 a5 a6 : Nat → Nat} {k : Nat} (h : k < 3) : yAll h0 a1 a2 a3 a4 a5 a6 (1476 + k) = a5 k := by
  unfold yAll
  rw [yCat_lt (by omega), yCat_ge (by omega), Nat.add_sub_cancel_left]
theorem yA6 {h0 : Nat} {a1 a2 a3 a4 a5 a6 : Nat → Nat} {k : Nat} : yAll h0 a1 a2 a3 a4 a5 a6 (1479 + k) = a6 k := by
  unfold yAll
  rw [yCat_ge (by omega), Nat.add_sub_cancel_left]
theorem cTint_cat {Γ : xG} {h0 : Nat} {a1 a2 a3 a4 a5 a6 : Nat → Nat} : (h0, (.inr (11, [.ref (a1 0), .ref (a2 0), .int 0, .ref (a3 0), .ref (a4 0), .int (-1), .int 0, .int (-1), .ref (a5 0), .ref (a6 0)]) : va_E)) :: (((((([] ++ wS a1 147 (cDesk Γ a1)) ++ wS a2 147 (cDesk Γ a2)) ++ wS a3 1178 (cHs Γ a3 8)) ++ wS a4 3 (cFormulaText Γ a4)) ++ wS a5 3 (cLeastCorrection Γ a5)) ++ wS a6 2 (cLabelWriter Γ a6)) = wS (yAll h0 a1 a2 a3 a4 a5 a6) 1481 (cTint Γ (yAll h0 a1 a2 a3 a4 a5 a6)) := by
  rw [show ∀ (e : va_E) (x1 x2 x3 x4 x5 x6 : va_W), (h0, e) :: (((((([] ++ x1) ++ x2) ++ x3) ++ x4) ++ x5) ++ x6) = ((((((wS (fun _ => h0) 1 (fun _ => e)) ++ x1) ++ x2) ++ x3) ++ x4) ++ x5) ++ x6 from fun _ _ _ _ _ _ _ => rfl]
  rw [wS_cat, wS_cat, wS_cat, wS_cat, wS_cat, wS_cat]
  refine wS_ext (fun k hk => ⟨rfl, ?_⟩)
  unfold cTint
  by_cases z0 : k < 1
  · rw [if_pos z0, yCat_lt (by omega), yCat_lt (by omega), yCat_lt (by omega), yCat_lt (by omega), yCat_lt (by omega), yCat_lt (by omega)]
    have e1 := yA1 (h0 := h0) (a1 := a1) (a2 := a2) (a3 := a3) (a4 := a4) (a5 := a5) (a6 := a6) (k := 0) (by omega)
    have e2 := yA2 (h0 := h0) (a1 := a1) (a2 := a2) (a3 := a3) (a4 := a4) (a5 := a5) (a6 := a6) (k := 0) (by omega)
    have e3 := yA3 (h0 := h0) (a1 := a1) (a2 := a2) (a3 := a3) (a4 := a4) (a5 := a5) (a6 := a6) (k := 0) (by omega)
    have e4 := yA4 (h0 := h0) (a1 := a1) (a2 := a2) (a3 := a3) (a4 := a4) (a5 := a5) (a6 := a6) (k := 0) (by omega)
    have e5 := yA5 (h0 := h0) (a1 := a1) (a2 := a2) (a3 := a3) (a4 := a4) (a5 := a5) (a6 := a6) (k := 0) (by omega)
    have e6 := yA6 (h0 := h0) (a1 := a1) (a2 := a2) (a3 := a3) (a4 := a4) (a5 := a5) (a6 := a6) (k := 0)
    rw [← e1, ← e2, ← e3, ← e4, ← e5, ← e6]
  · rw [if_neg z0]
    by_cases z1 : k < 148
    · rw [if_pos z1, yCat_lt (by omega), yCat_lt (by omega), yCat_lt (by omega), yCat_lt (by omega), yCat_lt (by omega), yCat_ge (by omega)]
      exact cDesk_cong (fun j hj => (yA1 hj).symm) (by omega)
    · rw [if_neg z1]
      by_cases z2 : k < 295
      · rw [if_pos z2, yCat_lt (by omega), yCat_lt (by omega), yCat_lt (by omega), yCat_lt (by omega), yCat_ge (by omega)]
        exact cDesk_cong (fun j hj => (yA2 hj).symm) (by omega)
      · rw [if_neg z2]
        by_cases z3 : k < 1473
        · rw [if_pos z3, yCat_lt (by omega), yCat_lt (by omega), yCat_lt (by omega), yCat_ge (by omega)]
          exact cHs_cong (fun j hj => (yA3 hj).symm) (by omega)
        · rw [if_neg z3]
          by_cases z4 : k < 1476
          · rw [if_pos z4, yCat_lt (by omega), yCat_lt (by omega), yCat_ge (by omega)]
            exact cFormulaText_cong (fun j hj => (yA4 hj).symm) _
          · rw [if_neg z4]
            by_cases z5 : k < 1479
            · rw [if_pos z5, yCat_lt (by omega), yCat_ge (by omega)]
              exact cLeastCorrection_cong (fun j hj => (yA5 hj).symm) _
            · rw [if_neg z5, yCat_ge (by omega)]
              exact cLabelWriter_cong (fun j hj => yA6.symm) _
