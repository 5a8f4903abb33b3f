/-! the world at the start, out of what the constructors made -/
theorem arrV_cong {cI N : Nat} {f g : Nat → Value} (h : ∀ j, j < N → f j = g j) : arrV cI N f = arrV cI N g := by
  have e : (fun j : Fin N => f j.val) = (fun j : Fin N => g j.val) := funext (fun j => h _ j.2)
  unfold arrV
  rw [e]
theorem va_at_q {D : va_G} {cl : List vw_C} {a n : Nat} {cA : ClassId} {f g : Nat → Option Nat} {H : Heap} (h : ∀ j, j < n → f j = g j) (hp : va_at D cl (a, .inl (cA, n, .inr (.inr (.inr (.inr f))))) H) : va_at D cl (a, .inl (cA, n, .inr (.inr (.inr (.inr g))))) H := by
  show H[a]? = some (vp_cell cA (n, .inr (.inr (.inr (.inr g)))))
  have e := arrV_cong (cI := cA) (N := n) (f := fun j => va_rf (f j)) (g := fun j => va_rf (g j)) (fun j hj => by rw [h j hj])
  rw [vp_cell_q, ← e]
  exact hp
abbrev z0 : Nat → Int32 := fun _ => 0
abbrev z1 : Nat → Int64 := fun _ => 0
theorem yDeskTo {Γ : xG} {f : Nat → Nat} {a r d : Nat} {H : Heap} (hr : r < 147) (hf : ∀ j, j < 147 → f j = Γ.2.1 (147 * d + j)) (h : va_at Γ.1 vwCl (a, cDesk Γ f r) H) : va_at Γ.1 vwCl (a, cXr Γ (147 * d + r) r z0 z1) H := by
  by_cases k5 : r < 5
  · have hc : r = 0 ∨ r = 1 ∨ r = 2 ∨ r = 3 ∨ r = 4 := by omega
    rcases hc with rfl | rfl | rfl | rfl | rfl
    · have e : cDesk Γ f 0 = cXr Γ (147 * d + 0) 0 z0 z1 := by
        show (Sum.inr (5, [.ref (f 1), .ref (f 2), .ref (f 3), .ref (f 4), .int 0, .int 0, .int 0, .int 0, .int 0]) : va_E) = _
        rw [hf 1 (by omega), hf 2 (by omega), hf 3 (by omega), hf 4 (by omega)]
        rfl
      rw [← e]
      exact h
    · exact va_at_q (f := fun j => if j < 8 then some (f (5 + 5 * j)) else none) (g := fun j => some (Γ.2.1 (147 * d + 1 + 4 + 5 * j))) (fun j hj => by rw [if_pos hj, hf _ (by omega)]; exact congrArg (fun z => some (Γ.2.1 z)) (by omega)) h
    · exact va_at_q (f := fun j => if j < 6 then some (f (45 + 2 * j)) else none) (g := fun j => some (Γ.2.1 (147 * d + 2 + 43 + 2 * j))) (fun j hj => by rw [if_pos hj, hf _ (by omega)]; exact congrArg (fun z => some (Γ.2.1 z)) (by omega)) h
    · exact va_at_q (f := fun j => if j < 10 then some (f (57 + 3 * j)) else none) (g := fun j => some (Γ.2.1 (147 * d + 3 + 54 + 3 * j))) (fun j hj => by rw [if_pos hj, hf _ (by omega)]; exact congrArg (fun z => some (Γ.2.1 z)) (by omega)) h
    · exact va_at_q (f := fun j => if j < 20 then some (f (87 + 3 * j)) else none) (g := fun j => some (Γ.2.1 (147 * d + 4 + 83 + 3 * j))) (fun j hj => by rw [if_pos hj, hf _ (by omega)]; exact congrArg (fun z => some (Γ.2.1 z)) (by omega)) h
  · by_cases k45 : r < 45
    · obtain ⟨i, t, ht, rfl⟩ : ∃ i t, t < 5 ∧ r = 5 + 5 * i + t := ⟨(r - 5) / 5, (r - 5) % 5, by omega, by omega⟩
      have e1 : (5 + 5 * i + t - 5) % 5 = t := by omega
      have e2 : 5 + 5 * i + t - t = 5 + 5 * i := by omega
      have hg : ∀ j, j < 5 → f (5 + 5 * i + j) = Γ.2.1 (147 * d + (5 + 5 * i) + j) := fun j hj => by rw [hf _ (by omega)]; exact congrArg Γ.2.1 (by omega)
      have h : va_at Γ.1 vwCl (a, cDk Γ f 8 6 10 20 (5 + 5 * i + t)) H := h
      rw [cDk_z1 (by omega) (by omega), e1, e2] at h
      have hc : t = 0 ∨ t = 1 ∨ t = 2 ∨ t = 3 ∨ t = 4 := by omega
      rcases hc with rfl | rfl | rfl | rfl | rfl
      · have e : cColorant Γ (fun j => f (5 + 5 * i + j)) 0 = cXr Γ (147 * d + (5 + 5 * i + 0)) (5 + 5 * i + 0) z0 z1 := by
          unfold cXr
          rw [if_neg (by omega), if_neg (by omega), if_neg (by omega), if_neg (by omega), if_neg (by omega), if_pos (by omega), if_pos (by omega)]
          unfold cColorant
          dsimp only
          rw [hg 1 (by omega), hg 2 (by omega), hg 3 (by omega), hg 4 (by omega)]
          rfl
        rw [← e]
        exact h
      · have e : cColorant Γ (fun j => f (5 + 5 * i + j)) 1 = cXr Γ (147 * d + (5 + 5 * i + 1)) (5 + 5 * i + 1) z0 z1 := by
          unfold cXr
          rw [if_neg (by omega), if_neg (by omega), if_neg (by omega), if_neg (by omega), if_neg (by omega), if_pos (by omega), if_neg (by omega), if_pos (by omega)]
          rfl
        rw [← e]
        exact h
      · have e : cColorant Γ (fun j => f (5 + 5 * i + j)) 2 = cXr Γ (147 * d + (5 + 5 * i + 2)) (5 + 5 * i + 2) z0 z1 := by
          unfold cXr
          rw [if_neg (by omega), if_neg (by omega), if_neg (by omega), if_neg (by omega), if_neg (by omega), if_pos (by omega), if_neg (by omega), if_neg (by omega)]
          rfl
        rw [← e]
        exact h
      · have e : cColorant Γ (fun j => f (5 + 5 * i + j)) 3 = cXr Γ (147 * d + (5 + 5 * i + 3)) (5 + 5 * i + 3) z0 z1 := by
          unfold cXr
          rw [if_neg (by omega), if_neg (by omega), if_neg (by omega), if_neg (by omega), if_neg (by omega), if_pos (by omega), if_neg (by omega), if_neg (by omega)]
          rfl
        rw [← e]
        exact h
      · have e : cColorant Γ (fun j => f (5 + 5 * i + j)) 4 = cXr Γ (147 * d + (5 + 5 * i + 4)) (5 + 5 * i + 4) z0 z1 := by
          unfold cXr
          rw [if_neg (by omega), if_neg (by omega), if_neg (by omega), if_neg (by omega), if_neg (by omega), if_pos (by omega), if_neg (by omega), if_neg (by omega)]
          rfl
        rw [← e]
        exact h
    · by_cases k57 : r < 57
      · obtain ⟨i, t, ht, rfl⟩ : ∃ i t, t < 2 ∧ r = 45 + 2 * i + t := ⟨(r - 45) / 2, (r - 45) % 2, by omega, by omega⟩
        have e1 : (45 + 2 * i + t - 45) % 2 = t := by omega
        have e2 : 45 + 2 * i + t - t = 45 + 2 * i := by omega
        have hg : ∀ j, j < 2 → f (45 + 2 * i + j) = Γ.2.1 (147 * d + (45 + 2 * i) + j) := fun j hj => by rw [hf _ (by omega)]; exact congrArg Γ.2.1 (by omega)
        have h : va_at Γ.1 vwCl (a, cDk Γ f 8 6 10 20 (45 + 2 * i + t)) H := h
        rw [cDk_z2 (by omega) (by omega), e1, e2] at h
        have hc : t = 0 ∨ t = 1 := by omega
        rcases hc with rfl | rfl
        · have e : cBase Γ (fun j => f (45 + 2 * i + j)) 0 = cXr Γ (147 * d + (45 + 2 * i + 0)) (45 + 2 * i + 0) z0 z1 := by
            unfold cXr
            rw [if_neg (by omega), if_neg (by omega), if_neg (by omega), if_neg (by omega), if_neg (by omega), if_neg (by omega), if_pos (by omega), if_pos (by omega)]
            unfold cBase
            dsimp only
            rw [hg 1 (by omega)]
            rfl
          rw [← e]
          exact h
        · have e : cBase Γ (fun j => f (45 + 2 * i + j)) 1 = cXr Γ (147 * d + (45 + 2 * i + 1)) (45 + 2 * i + 1) z0 z1 := by
            unfold cXr
            rw [if_neg (by omega), if_neg (by omega), if_neg (by omega), if_neg (by omega), if_neg (by omega), if_neg (by omega), if_pos (by omega), if_neg (by omega)]
            rfl
          rw [← e]
          exact h
      · by_cases k87 : r < 87
        · obtain ⟨i, t, ht, rfl⟩ : ∃ i t, t < 3 ∧ r = 57 + 3 * i + t := ⟨(r - 57) / 3, (r - 57) % 3, by omega, by omega⟩
          have e1 : (57 + 3 * i + t - 57) % 3 = t := by omega
          have e2 : 57 + 3 * i + t - t = 57 + 3 * i := by omega
          have hg : ∀ j, j < 3 → f (57 + 3 * i + j) = Γ.2.1 (147 * d + (57 + 3 * i) + j) := fun j hj => by rw [hf _ (by omega)]; exact congrArg Γ.2.1 (by omega)
          have h : va_at Γ.1 vwCl (a, cDk Γ f 8 6 10 20 (57 + 3 * i + t)) H := h
          rw [cDk_z3 (by omega) (by omega), e1, e2] at h
          have hc : t = 0 ∨ t = 1 ∨ t = 2 := by omega
          rcases hc with rfl | rfl | rfl
          · have e : cFormula Γ (fun j => f (57 + 3 * i + j)) 0 = cXr Γ (147 * d + (57 + 3 * i + 0)) (57 + 3 * i + 0) z0 z1 := by
              unfold cXr
              rw [if_neg (by omega), if_neg (by omega), if_neg (by omega), if_neg (by omega), if_neg (by omega), if_neg (by omega), if_neg (by omega), if_pos (by omega), if_pos (by omega)]
              unfold cFormula
              dsimp only
              rw [hg 1 (by omega), hg 2 (by omega)]
              rfl
            rw [← e]
            exact h
          · have e : cFormula Γ (fun j => f (57 + 3 * i + j)) 1 = cXr Γ (147 * d + (57 + 3 * i + 1)) (57 + 3 * i + 1) z0 z1 := by
              unfold cXr
              rw [if_neg (by omega), if_neg (by omega), if_neg (by omega), if_neg (by omega), if_neg (by omega), if_neg (by omega), if_neg (by omega), if_pos (by omega), if_neg (by omega)]
              rfl
            rw [← e]
            exact h
          · have e : cFormula Γ (fun j => f (57 + 3 * i + j)) 2 = cXr Γ (147 * d + (57 + 3 * i + 2)) (57 + 3 * i + 2) z0 z1 := by
              unfold cXr
              rw [if_neg (by omega), if_neg (by omega), if_neg (by omega), if_neg (by omega), if_neg (by omega), if_neg (by omega), if_neg (by omega), if_pos (by omega), if_neg (by omega)]
              rfl
            rw [← e]
            exact h
        · obtain ⟨i, t, ht, rfl⟩ : ∃ i t, t < 3 ∧ r = 87 + 3 * i + t := ⟨(r - 87) / 3, (r - 87) % 3, by omega, by omega⟩
          have e1 : (87 + 3 * i + t - 87) % 3 = t := by omega
          have e2 : 87 + 3 * i + t - t = 87 + 3 * i := by omega
          have hg : ∀ j, j < 3 → f (87 + 3 * i + j) = Γ.2.1 (147 * d + (87 + 3 * i) + j) := fun j hj => by rw [hf _ (by omega)]; exact congrArg Γ.2.1 (by omega)
          have h : va_at Γ.1 vwCl (a, cDk Γ f 8 6 10 20 (87 + 3 * i + t)) H := h
          rw [cDk_z4 (by omega), e1, e2] at h
          have hc : t = 0 ∨ t = 1 ∨ t = 2 := by omega
          rcases hc with rfl | rfl | rfl
          · have e : cCan Γ (fun j => f (87 + 3 * i + j)) 0 = cXr Γ (147 * d + (87 + 3 * i + 0)) (87 + 3 * i + 0) z0 z1 := by
              unfold cXr
              rw [if_neg (by omega), if_neg (by omega), if_neg (by omega), if_neg (by omega), if_neg (by omega), if_neg (by omega), if_neg (by omega), if_neg (by omega), if_pos (by omega)]
              unfold cCan
              dsimp only
              rw [hg 1 (by omega), hg 2 (by omega)]
              rfl
            rw [← e]
            exact h
          · have e : cCan Γ (fun j => f (87 + 3 * i + j)) 1 = cXr Γ (147 * d + (87 + 3 * i + 1)) (87 + 3 * i + 1) z0 z1 := by
              unfold cXr
              rw [if_neg (by omega), if_neg (by omega), if_neg (by omega), if_neg (by omega), if_neg (by omega), if_neg (by omega), if_neg (by omega), if_neg (by omega), if_neg (by omega), if_pos (by omega)]
              rfl
            rw [← e]
            exact h
          · have e : cCan Γ (fun j => f (87 + 3 * i + j)) 2 = cXr Γ (147 * d + (87 + 3 * i + 2)) (87 + 3 * i + 2) z0 z1 := by
              unfold cXr
              rw [if_neg (by omega), if_neg (by omega), if_neg (by omega), if_neg (by omega), if_neg (by omega), if_neg (by omega), if_neg (by omega), if_neg (by omega), if_neg (by omega), if_neg (by omega)]
              rfl
            rw [← e]
            exact h
def sX (k : Nat) : Nat := if k < 294 then k + 1 else if k < 1470 then k + 3 else if k = 1470 then 0 else if k < 1473 then k - 1176 else k
theorem sX_v {k : Nat} (hk : k < 1481) : (k < 294 ∧ sX k = k + 1) ∨ (294 ≤ k ∧ k < 1470 ∧ sX k = k + 3) ∨ (k = 1470 ∧ sX k = 0) ∨ (1471 ≤ k ∧ k < 1473 ∧ sX k = k - 1176) ∨ (1473 ≤ k ∧ sX k = k) := by
  unfold sX
  by_cases i1 : k < 294
  · rw [if_pos i1]; omega
  · rw [if_neg i1]
    by_cases i2 : k < 1470
    · rw [if_pos i2]; omega
    · rw [if_neg i2]
      by_cases i3 : k = 1470
      · rw [if_pos i3]; omega
      · rw [if_neg i3]
        by_cases i4 : k < 1473
        · rw [if_pos i4]; omega
        · rw [if_neg i4]; omega
theorem sX_inj {i j : Nat} (hi : i < 1481) (hj : j < 1481) (h : sX i = sX j) : i = j := by
  have h1 := sX_v hi
  have h2 := sX_v hj
  omega
theorem sX_lt {i : Nat} (hi : i < 1481) : sX i < 1481 := by
  have h1 := sX_v hi
  omega
def adX (ad : Nat → Nat) (o1 o2 : Nat) : Nat → Nat := fun k => if k < 1481 then ad (sX k) else if k = 1481 then o1 else o2
abbrev gX (Γ : xG) (ad : Nat → Nat) (o1 o2 : Nat) : xG := (Γ.1, adX ad o1 o2, Γ.2.2)
def xM0 : xM := (fun k j => if k = 1470 ∧ (j = 5 ∨ j = 7) then -1 else 0, fun _ _ => 0)
theorem xM0_z {k : Nat} (h : k ≠ 1470) : xM0.1 k = z0 := by
  funext j
  exact if_neg (fun q => h q.1)
theorem adX_lo {ad : Nat → Nat} {o1 o2 k : Nat} (h : k < 1481) : adX ad o1 o2 k = ad (sX k) := if_pos h
theorem yTintTo {Γ : xG} {ad : Nat → Nat} {o1 o2 : Nat} {H : Heap} (hP : va_P Γ.1 vwCl (wS ad 1481 (cTint Γ ad)) H) {k : Nat} (hk : k < 1481) : va_at Γ.1 vwCl (adX ad o1 o2 k, cXf (gX Γ ad o1 o2) k (xM0.1 k) (xM0.2 k)) H := by
  have h := hP (sX k) _ (wS_get (sX_lt hk))
  rw [← adX_lo (ad := ad) (o1 := o1) (o2 := o2) hk] at h
  by_cases k1 : k < 1470
  · rw [xM0_z (by omega)]
    obtain ⟨d, r, hr, rfl⟩ : ∃ d r, r < 147 ∧ k = 147 * d + r := ⟨k / 147, k % 147, by omega, by omega⟩
    rw [cXf_at (d := d) (r := r) (by omega) hr rfl]
    have key : ∃ f : Nat → Nat, cTint Γ ad (sX (147 * d + r)) = cDesk Γ f r ∧ ∀ j, j < 147 → f j = adX ad o1 o2 (147 * d + j) := by
      by_cases d0 : d = 0
      · subst d0
        refine ⟨fun j => ad (1 + j), ?_, fun j hj => ?_⟩
        · have e : sX (147 * 0 + r) = r + 1 := by unfold sX; rw [if_pos (by omega)]; omega
          rw [e]
          unfold cTint
          rw [if_neg (by omega), if_pos (by omega), Nat.add_sub_cancel]
        · rw [adX_lo (by omega)]
          have e : sX (147 * 0 + j) = 1 + j := by unfold sX; rw [if_pos (by omega)]; omega
          rw [e]
      · by_cases d1 : d = 1
        · subst d1
          refine ⟨fun j => ad (148 + j), ?_, fun j hj => ?_⟩
          · have e : sX (147 * 1 + r) = 148 + r := by unfold sX; rw [if_pos (by omega)]; omega
            rw [e]
            unfold cTint
            rw [if_neg (by omega), if_neg (by omega), if_pos (by omega), Nat.add_sub_cancel_left]
          · rw [adX_lo (by omega)]
            have e : sX (147 * 1 + j) = 148 + j := by unfold sX; rw [if_pos (by omega)]; omega
            rw [e]
        · refine ⟨fun j => ad (295 + (2 + 147 * (d - 2) + j)), ?_, fun j hj => ?_⟩
          · have e : sX (147 * d + r) = 147 * d + r + 3 := by unfold sX; rw [if_neg (by omega), if_pos (by omega)]
            rw [e]
            unfold cTint
            rw [if_neg (by omega), if_neg (by omega), if_neg (by omega), if_pos (by omega), cHs_z (by omega)]
            have e1 : (147 * d + r + 3 - 295 - 2) % 147 = r := by omega
            rw [e1]
            exact cDesk_cong (fun j hj => congrArg ad (by omega)) hr
          · rw [adX_lo (by omega)]
            have e : sX (147 * d + j) = 147 * d + j + 3 := by unfold sX; rw [if_neg (by omega), if_pos (by omega)]
            rw [e]
            exact congrArg ad (by omega)
    obtain ⟨f, e, hf⟩ := key
    rw [e] at h
    exact yDeskTo (Γ := gX Γ ad o1 o2) hr hf h
  · have hc : k = 1470 ∨ k = 1471 ∨ k = 1472 ∨ k = 1473 ∨ k = 1474 ∨ k = 1475 ∨ k = 1476 ∨ k = 1477 ∨ k = 1478 ∨ k = 1479 ∨ k = 1480 := by omega
    rcases hc with rfl | rfl | rfl | rfl | rfl | rfl | rfl | rfl | rfl | rfl | rfl
    · exact h
    · exact h
    · refine va_at_q (f := fun j => if j < 8 then some (ad (295 + (2 + 147 * j))) else none) (fun j hj => ?_) h
      have e : sX (294 + 147 * j) = 294 + 147 * j + 3 := by unfold sX; rw [if_neg (by omega), if_pos (by omega)]
      show _ = some (adX ad o1 o2 (294 + 147 * j))
      rw [if_pos hj, adX_lo (by omega), e]
      exact congrArg (fun z => some (ad z)) (by omega)
    · exact h
    · exact h
    · exact h
    · exact h
    · exact h
    · exact h
    · exact h
    · exact h
