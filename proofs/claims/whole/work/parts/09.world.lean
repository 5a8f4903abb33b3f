/-! the two worlds: the class's (ten desks of 147 things each, and what stands beside them; the law's two rows of answers), and the reference's -/
def wG (N : Nat) (cf : xG → Nat → (Nat → Int32) → (Nat → Int64) → va_E) (Γ : xG) (M : xM) : va_W := (List.range N).map fun k => (Γ.2.1 k, cf Γ k (M.1 k) (M.2 k))
theorem wG_get {N : Nat} {cf : xG → Nat → (Nat → Int32) → (Nat → Int64) → va_E} {Γ : xG} {M : xM} {k : Nat} (hk : k < N) : (wG N cf Γ M)[k]? = some (Γ.2.1 k, cf Γ k (M.1 k) (M.2 k)) := by
  simp [wG, hk]
theorem wG_W {N : Nat} {cf : xG → Nat → (Nat → Int32) → (Nat → Int64) → va_E} {Γ : xG} : xW Γ (wG N cf Γ) N := by
  refine ⟨fun M k q h => ?_, fun M k hk => ⟨_, wG_get hk⟩⟩
  have hl := (List.getElem?_eq_some_iff.mp h).1
  have hk : k < N := by simpa [wG] using hl
  rw [wG_get hk] at h
  cases h
  exact ⟨hk, rfl⟩
theorem wG_set {N : Nat} {cf : xG → Nat → (Nat → Int32) → (Nat → Int64) → va_E} {Γ : xG} {M M1 : xM} {k : Nat} {e : va_E} (he : cf Γ k (M1.1 k) (M1.2 k) = e) (ho : ∀ j, j ≠ k → M1.1 j = M.1 j ∧ M1.2 j = M.2 j) : (wG N cf Γ M).set k (Γ.2.1 k, e) = wG N cf Γ M1 := by
  apply List.ext_getElem?
  intro j
  by_cases hj : j < N
  · rw [wG_get hj]
    by_cases hjk : j = k
    · subst hjk
      rw [List.getElem?_set_self (by simpa [wG] using hj), he]
    · rw [List.getElem?_set_ne (Ne.symm hjk), wG_get hj, (ho j hjk).1, (ho j hjk).2]
  · rw [List.getElem?_eq_none (by simp [wG]; omega), List.getElem?_eq_none (by simp [wG]; omega)]
section
variable {N : Nat} {cf : xG → Nat → (Nat → Int32) → (Nat → Int64) → va_E} {Γ : xG} {k n : Nat}
theorem wG_I (hk : k < N) (h : ∀ I G, cf Γ k I G = .inl (Γ.2.2 1, n, .inl I)) : xI Γ (wG N cf Γ) k n := ⟨fun M => by rw [wG_get hk, h], fun M f => wG_set (by rw [h]; simp [xS]) (fun j hj => ⟨by simp [xS, hj], rfl⟩)⟩
theorem wG_C (hk : k < N) (h : ∀ I G, cf Γ k I G = .inl (Γ.2.2 0, n, .inl I)) : xC Γ (wG N cf Γ) k n := ⟨fun M => by rw [wG_get hk, h], fun M f => wG_set (by rw [h]; simp [xS]) (fun j hj => ⟨by simp [xS, hj], rfl⟩)⟩
theorem wG_J (hk : k < N) (h : ∀ I G, cf Γ k I G = .inl (Γ.2.2 2, n, .inr (.inl G))) : xJ Γ (wG N cf Γ) k n := ⟨fun M => by rw [wG_get hk, h], fun M f => wG_set (by rw [h]; simp [xSL]) (fun j hj => ⟨rfl, by simp [xSL, hj]⟩)⟩
theorem wG_Q {t : Nat} {g : Nat → Nat} (hk : k < N) (h : ∀ I G, cf Γ k I G = .inl (Γ.2.2 t, n, .inr (.inr (.inr (.inr (fun j => some (Γ.2.1 (g j)))))))) : xQ Γ (wG N cf Γ) t k n g := ⟨_, fun _ _ => rfl, fun M => by rw [wG_get hk, h]⟩
theorem wG_O {ci : Nat} {fl : (Nat → Int32) → List Value} (hk : k < N) (h : ∀ I G, cf Γ k I G = .inr (ci, fl I)) : xO Γ (wG N cf Γ) k ci fl := ⟨fun M => by rw [wG_get hk, h], fun M f => wG_set (by rw [h]; simp [xS]) (fun j hj => ⟨by simp [xS, hj], rfl⟩)⟩
end
-- objects' fields, by the place k of the object
def flDesk (Γ : xG) (k : Nat) : (Nat → Int32) → List Value := fun I => [.ref (Γ.2.1 (k + 1)), .ref (Γ.2.1 (k + 2)), .ref (Γ.2.1 (k + 3)), .ref (Γ.2.1 (k + 4)), .int (I 4), .int (I 5), .int (I 6), .int (I 7), .int (I 8)]
def flColorant (Γ : xG) (k : Nat) : (Nat → Int32) → List Value := fun I => [.ref (Γ.2.1 (k + 1)), .int (I 1), .int (I 2), .int (I 3), .int (I 4), .int (I 5), .int (I 6), .ref (Γ.2.1 (k + 2)), .ref (Γ.2.1 (k + 3)), .ref (Γ.2.1 (k + 4))]
def flBase (Γ : xG) (k : Nat) : (Nat → Int32) → List Value := fun I => [.ref (Γ.2.1 (k + 1)), .int (I 1), .int (I 2)]
def flFormula (Γ : xG) (k : Nat) : (Nat → Int32) → List Value := fun I => [.int (I 0), .ref (Γ.2.1 (k + 1)), .ref (Γ.2.1 (k + 2))]
def flCan (Γ : xG) (k : Nat) : (Nat → Int32) → List Value := fun I => [.int (I 0), .int (I 1), .int (I 2), .int (I 3), .ref (Γ.2.1 (k + 1)), .ref (Γ.2.1 (k + 2))]
def flTint (Γ : xG) : (Nat → Int32) → List Value := fun I => [.ref (Γ.2.1 0), .ref (Γ.2.1 147), .int (I 2), .ref (Γ.2.1 1471), .ref (Γ.2.1 1473), .int (I 5), .int (I 6), .int (I 7), .ref (Γ.2.1 1476), .ref (Γ.2.1 1479)]
def flHist (Γ : xG) : (Nat → Int32) → List Value := fun I => [.ref (Γ.2.1 1472), .int (I 1), .int (I 2)]
def flText (Γ : xG) : (Nat → Int32) → List Value := fun I => [.ref (Γ.2.1 1474), .int (I 1), .int (I 2), .int (I 3), .ref (Γ.2.1 1475)]
def flLeast (Γ : xG) : (Nat → Int32) → List Value := fun I => [.ref (Γ.2.1 1477), .int (I 1), .int (I 2), .ref (Γ.2.1 1478)]
def flLabel (Γ : xG) : (Nat → Int32) → List Value := fun I => [.ref (Γ.2.1 1480), .int (I 1)]
def cXr (Γ : xG) (k r : Nat) (I : Nat → Int32) (G : Nat → Int64) : va_E :=
  if r = 0 then .inr (5, flDesk Γ k I)
  else if r = 1 then .inl (Γ.2.2 5, 8, .inr (.inr (.inr (.inr (fun j => some (Γ.2.1 (k + 4 + 5 * j)))))))
  else if r = 2 then .inl (Γ.2.2 3, 6, .inr (.inr (.inr (.inr (fun j => some (Γ.2.1 (k + 43 + 2 * j)))))))
  else if r = 3 then .inl (Γ.2.2 7, 10, .inr (.inr (.inr (.inr (fun j => some (Γ.2.1 (k + 54 + 3 * j)))))))
  else if r = 4 then .inl (Γ.2.2 4, 20, .inr (.inr (.inr (.inr (fun j => some (Γ.2.1 (k + 83 + 3 * j)))))))
  else if r < 45 then
    (if r % 5 = 0 then .inr (4, flColorant Γ k I)
    else if r % 5 = 1 then .inl (Γ.2.2 1, 3, .inl I)
    else .inl (Γ.2.2 1, 12, .inl I))
  else if r < 57 then
    (if r % 2 = 1 then .inr (2, flBase Γ k I)
    else .inl (Γ.2.2 1, 3, .inl I))
  else if r < 87 then
    (if r % 3 = 0 then .inr (6, flFormula Γ k I)
    else .inl (Γ.2.2 1, 8, .inl I))
  else
    (if r % 3 = 0 then .inr (3, flCan Γ k I)
    else if r % 3 = 1 then .inl (Γ.2.2 1, 8, .inl I)
    else .inl (Γ.2.2 2, 16, .inr (.inl G)))
def cXf (Γ : xG) (k : Nat) (I : Nat → Int32) (G : Nat → Int64) : va_E :=
  if k < 1470 then cXr Γ k (k % 147) I G
  else if k = 1470 then .inr (11, flTint Γ I)
  else if k = 1471 then .inr (8, flHist Γ I)
  else if k = 1472 then .inl (Γ.2.2 6, 8, .inr (.inr (.inr (.inr (fun j => some (Γ.2.1 (294 + 147 * j)))))))
  else if k = 1473 then .inr (7, flText Γ I)
  else if k = 1474 then .inl (Γ.2.2 0, 60, .inl I)
  else if k = 1475 then .inl (Γ.2.2 1, 10, .inl I)
  else if k = 1476 then .inr (10, flLeast Γ I)
  else if k = 1477 then .inl (Γ.2.2 2, 3, .inr (.inl G))
  else if k = 1478 then .inl (Γ.2.2 1, 8, .inl I)
  else if k = 1479 then .inr (9, flLabel Γ I)
  else if k = 1480 then .inl (Γ.2.2 0, 654, .inl I)
  else if k = 1481 then .inl (Γ.2.2 2, 1, .inr (.inl G))
  else .inl (Γ.2.2 8, 1, .inr (.inr (.inr (.inl (fun j => (G j).toUInt64)))))
theorem cXf_at {Γ : xG} {k d r : Nat} (hd : d < 10) (hr : r < 147) (hk : k = 147 * d + r) (I : Nat → Int32) (G : Nat → Int64) : cXf Γ k I G = cXr Γ k r I G := by
  have h1 : k % 147 = r := by subst hk; rw [Nat.mul_add_mod]; exact Nat.mod_eq_of_lt hr
  unfold cXf
  rw [if_pos (by omega), h1]
abbrev wX (Γ : xG) : xM → va_W := wG 1483 cXf Γ
def isDk (k : Nat) : Prop := ∃ d, d < 10 ∧ k = 147 * d
def isCo (k : Nat) : Prop := ∃ d i, d < 10 ∧ i < 8 ∧ k = 147 * d + 5 + 5 * i
def isBa (k : Nat) : Prop := ∃ d i, d < 10 ∧ i < 6 ∧ k = 147 * d + 45 + 2 * i
def isFo (k : Nat) : Prop := ∃ d i, d < 10 ∧ i < 10 ∧ k = 147 * d + 57 + 3 * i
def isCa (k : Nat) : Prop := ∃ d i, d < 10 ∧ i < 20 ∧ k = 147 * d + 87 + 3 * i
theorem kX_desk {Γ : xG} {k : Nat} (h : isDk k) : xO Γ (wX Γ) k 5 (flDesk Γ k) := by
  obtain ⟨d, h1, h2⟩ := h
  refine wG_O (by omega) (fun I G => ?_)
  rw [cXf_at (d := d) (r := 0) h1 (by omega) (by omega)]
  unfold cXr
  rw [if_pos rfl]
theorem kX_desk_colorants {Γ : xG} {k : Nat} (h : isDk k) : xQ Γ (wX Γ) 5 (k + 1) 8 (fun j => k + 5 + 5 * j) := by
  obtain ⟨d, h1, h2⟩ := h
  refine wG_Q (by omega) (fun I G => ?_)
  rw [cXf_at (d := d) (r := 1) h1 (by omega) (by omega)]
  unfold cXr
  rw [if_neg (by omega), if_pos rfl]
theorem kX_desk_bases {Γ : xG} {k : Nat} (h : isDk k) : xQ Γ (wX Γ) 3 (k + 2) 6 (fun j => k + 45 + 2 * j) := by
  obtain ⟨d, h1, h2⟩ := h
  refine wG_Q (by omega) (fun I G => ?_)
  rw [cXf_at (d := d) (r := 2) h1 (by omega) (by omega)]
  unfold cXr
  rw [if_neg (by omega), if_neg (by omega), if_pos rfl]
theorem kX_desk_formulas {Γ : xG} {k : Nat} (h : isDk k) : xQ Γ (wX Γ) 7 (k + 3) 10 (fun j => k + 57 + 3 * j) := by
  obtain ⟨d, h1, h2⟩ := h
  refine wG_Q (by omega) (fun I G => ?_)
  rw [cXf_at (d := d) (r := 3) h1 (by omega) (by omega)]
  unfold cXr
  rw [if_neg (by omega), if_neg (by omega), if_neg (by omega), if_pos rfl]
theorem kX_desk_cans {Γ : xG} {k : Nat} (h : isDk k) : xQ Γ (wX Γ) 4 (k + 4) 20 (fun j => k + 87 + 3 * j) := by
  obtain ⟨d, h1, h2⟩ := h
  refine wG_Q (by omega) (fun I G => ?_)
  rw [cXf_at (d := d) (r := 4) h1 (by omega) (by omega)]
  unfold cXr
  rw [if_neg (by omega), if_neg (by omega), if_neg (by omega), if_neg (by omega), if_pos rfl]
theorem kX_colorant {Γ : xG} {k : Nat} (h : isCo k) : xO Γ (wX Γ) k 4 (flColorant Γ k) := by
  obtain ⟨d, i, h1, h2, h3⟩ := h
  refine wG_O (by omega) (fun I G => ?_)
  rw [cXf_at (d := d) (r := 5 + 5 * i) h1 (by omega) (by omega)]
  unfold cXr
  rw [if_neg (by omega), if_neg (by omega), if_neg (by omega), if_neg (by omega), if_neg (by omega), if_pos (by omega), if_pos (by omega)]
theorem kX_colorant_values {Γ : xG} {k : Nat} (h : isCo k) : xI Γ (wX Γ) (k + 1) 3 := by
  obtain ⟨d, i, h1, h2, h3⟩ := h
  refine wG_I (by omega) (fun I G => ?_)
  rw [cXf_at (d := d) (r := 6 + 5 * i) h1 (by omega) (by omega)]
  unfold cXr
  rw [if_neg (by omega), if_neg (by omega), if_neg (by omega), if_neg (by omega), if_neg (by omega), if_pos (by omega), if_neg (by omega), if_pos (by omega)]
theorem kX_colorant_lotNumbers {Γ : xG} {k : Nat} (h : isCo k) : xI Γ (wX Γ) (k + 2) 12 := by
  obtain ⟨d, i, h1, h2, h3⟩ := h
  refine wG_I (by omega) (fun I G => ?_)
  rw [cXf_at (d := d) (r := 7 + 5 * i) h1 (by omega) (by omega)]
  unfold cXr
  rw [if_neg (by omega), if_neg (by omega), if_neg (by omega), if_neg (by omega), if_neg (by omega), if_pos (by omega), if_neg (by omega), if_neg (by omega)]
theorem kX_colorant_lotSteps {Γ : xG} {k : Nat} (h : isCo k) : xI Γ (wX Γ) (k + 3) 12 := by
  obtain ⟨d, i, h1, h2, h3⟩ := h
  refine wG_I (by omega) (fun I G => ?_)
  rw [cXf_at (d := d) (r := 8 + 5 * i) h1 (by omega) (by omega)]
  unfold cXr
  rw [if_neg (by omega), if_neg (by omega), if_neg (by omega), if_neg (by omega), if_neg (by omega), if_pos (by omega), if_neg (by omega), if_neg (by omega)]
theorem kX_colorant_lotLastDays {Γ : xG} {k : Nat} (h : isCo k) : xI Γ (wX Γ) (k + 4) 12 := by
  obtain ⟨d, i, h1, h2, h3⟩ := h
  refine wG_I (by omega) (fun I G => ?_)
  rw [cXf_at (d := d) (r := 9 + 5 * i) h1 (by omega) (by omega)]
  unfold cXr
  rw [if_neg (by omega), if_neg (by omega), if_neg (by omega), if_neg (by omega), if_neg (by omega), if_pos (by omega), if_neg (by omega), if_neg (by omega)]
theorem kX_base {Γ : xG} {k : Nat} (h : isBa k) : xO Γ (wX Γ) k 2 (flBase Γ k) := by
  obtain ⟨d, i, h1, h2, h3⟩ := h
  refine wG_O (by omega) (fun I G => ?_)
  rw [cXf_at (d := d) (r := 45 + 2 * i) h1 (by omega) (by omega)]
  unfold cXr
  rw [if_neg (by omega), if_neg (by omega), if_neg (by omega), if_neg (by omega), if_neg (by omega), if_neg (by omega), if_pos (by omega), if_pos (by omega)]
theorem kX_base_values {Γ : xG} {k : Nat} (h : isBa k) : xI Γ (wX Γ) (k + 1) 3 := by
  obtain ⟨d, i, h1, h2, h3⟩ := h
  refine wG_I (by omega) (fun I G => ?_)
  rw [cXf_at (d := d) (r := 46 + 2 * i) h1 (by omega) (by omega)]
  unfold cXr
  rw [if_neg (by omega), if_neg (by omega), if_neg (by omega), if_neg (by omega), if_neg (by omega), if_neg (by omega), if_pos (by omega), if_neg (by omega)]
theorem kX_formula {Γ : xG} {k : Nat} (h : isFo k) : xO Γ (wX Γ) k 6 (flFormula Γ k) := by
  obtain ⟨d, i, h1, h2, h3⟩ := h
  refine wG_O (by omega) (fun I G => ?_)
  rw [cXf_at (d := d) (r := 57 + 3 * i) h1 (by omega) (by omega)]
  unfold cXr
  rw [if_neg (by omega), if_neg (by omega), if_neg (by omega), if_neg (by omega), if_neg (by omega), if_neg (by omega), if_neg (by omega), if_pos (by omega), if_pos (by omega)]
theorem kX_formula_amounts {Γ : xG} {k : Nat} (h : isFo k) : xI Γ (wX Γ) (k + 1) 8 := by
  obtain ⟨d, i, h1, h2, h3⟩ := h
  refine wG_I (by omega) (fun I G => ?_)
  rw [cXf_at (d := d) (r := 58 + 3 * i) h1 (by omega) (by omega)]
  unfold cXr
  rw [if_neg (by omega), if_neg (by omega), if_neg (by omega), if_neg (by omega), if_neg (by omega), if_neg (by omega), if_neg (by omega), if_pos (by omega), if_neg (by omega)]
theorem kX_formula_carries {Γ : xG} {k : Nat} (h : isFo k) : xI Γ (wX Γ) (k + 2) 8 := by
  obtain ⟨d, i, h1, h2, h3⟩ := h
  refine wG_I (by omega) (fun I G => ?_)
  rw [cXf_at (d := d) (r := 59 + 3 * i) h1 (by omega) (by omega)]
  unfold cXr
  rw [if_neg (by omega), if_neg (by omega), if_neg (by omega), if_neg (by omega), if_neg (by omega), if_neg (by omega), if_neg (by omega), if_pos (by omega), if_neg (by omega)]
theorem kX_can {Γ : xG} {k : Nat} (h : isCa k) : xO Γ (wX Γ) k 3 (flCan Γ k) := by
  obtain ⟨d, i, h1, h2, h3⟩ := h
  refine wG_O (by omega) (fun I G => ?_)
  rw [cXf_at (d := d) (r := 87 + 3 * i) h1 (by omega) (by omega)]
  unfold cXr
  rw [if_neg (by omega), if_neg (by omega), if_neg (by omega), if_neg (by omega), if_neg (by omega), if_neg (by omega), if_neg (by omega), if_neg (by omega), if_pos (by omega)]
theorem kX_can_steps {Γ : xG} {k : Nat} (h : isCa k) : xI Γ (wX Γ) (k + 1) 8 := by
  obtain ⟨d, i, h1, h2, h3⟩ := h
  refine wG_I (by omega) (fun I G => ?_)
  rw [cXf_at (d := d) (r := 88 + 3 * i) h1 (by omega) (by omega)]
  unfold cXr
  rw [if_neg (by omega), if_neg (by omega), if_neg (by omega), if_neg (by omega), if_neg (by omega), if_neg (by omega), if_neg (by omega), if_neg (by omega), if_neg (by omega), if_pos (by omega)]
theorem kX_can_lotBits {Γ : xG} {k : Nat} (h : isCa k) : xJ Γ (wX Γ) (k + 2) 16 := by
  obtain ⟨d, i, h1, h2, h3⟩ := h
  refine wG_J (by omega) (fun I G => ?_)
  rw [cXf_at (d := d) (r := 89 + 3 * i) h1 (by omega) (by omega)]
  unfold cXr
  rw [if_neg (by omega), if_neg (by omega), if_neg (by omega), if_neg (by omega), if_neg (by omega), if_neg (by omega), if_neg (by omega), if_neg (by omega), if_neg (by omega), if_neg (by omega)]
theorem kX_tint {Γ : xG} : xO Γ (wX Γ) 1470 11 (flTint Γ) := wG_O (by omega) (fun I G => rfl)
theorem kX_hist {Γ : xG} : xO Γ (wX Γ) 1471 8 (flHist Γ) := wG_O (by omega) (fun I G => rfl)
theorem kX_hist_ring {Γ : xG} : xQ Γ (wX Γ) 6 1472 8 (fun j => 294 + 147 * j) := wG_Q (by omega) (fun I G => rfl)
theorem kX_text {Γ : xG} : xO Γ (wX Γ) 1473 7 (flText Γ) := wG_O (by omega) (fun I G => rfl)
theorem kX_text_signs {Γ : xG} : xC Γ (wX Γ) 1474 60 := wG_C (by omega) (fun I G => rfl)
theorem kX_text_amounts {Γ : xG} : xI Γ (wX Γ) 1475 10 := wG_I (by omega) (fun I G => rfl)
theorem kX_least {Γ : xG} : xO Γ (wX Γ) 1476 10 (flLeast Γ) := wG_O (by omega) (fun I G => rfl)
theorem kX_least_gaps {Γ : xG} : xJ Γ (wX Γ) 1477 3 := wG_J (by omega) (fun I G => rfl)
theorem kX_least_chosen {Γ : xG} : xI Γ (wX Γ) 1478 8 := wG_I (by omega) (fun I G => rfl)
theorem kX_label {Γ : xG} : xO Γ (wX Γ) 1479 9 (flLabel Γ) := wG_O (by omega) (fun I G => rfl)
theorem kX_label_signs {Γ : xG} : xC Γ (wX Γ) 1480 654 := wG_C (by omega) (fun I G => rfl)
theorem kX_out {Γ : xG} : xJ Γ (wX Γ) 1481 1 := wG_J (by omega) (fun I G => rfl)
theorem xin_lt {i : Int32} {n : Nat} (h : xin i n = true) : i.toNatClampNeg < n := Nat.not_le.mp fun q => xin_in h (Or.inr q)
theorem isDk_0 : isDk 0 := ⟨0, by omega, rfl⟩
theorem isDk_147 : isDk 147 := ⟨1, by omega, rfl⟩
theorem isDk_ring {i : Int32} (h : xin i 8 = true) : isDk (294 + 147 * i.toNatClampNeg) := ⟨i.toNatClampNeg + 2, by have := xin_lt h; omega, by omega⟩
theorem isCo_of {k : Nat} (hk : isDk k) {i : Int32} (h : xin i 8 = true) : isCo (k + 5 + 5 * i.toNatClampNeg) := by
  obtain ⟨d, h1, h2⟩ := hk
  exact ⟨d, i.toNatClampNeg, h1, xin_lt h, by omega⟩
theorem isBa_of {k : Nat} (hk : isDk k) {i : Int32} (h : xin i 6 = true) : isBa (k + 45 + 2 * i.toNatClampNeg) := by
  obtain ⟨d, h1, h2⟩ := hk
  exact ⟨d, i.toNatClampNeg, h1, xin_lt h, by omega⟩
theorem isFo_of {k : Nat} (hk : isDk k) {i : Int32} (h : xin i 10 = true) : isFo (k + 57 + 3 * i.toNatClampNeg) := by
  obtain ⟨d, h1, h2⟩ := hk
  exact ⟨d, i.toNatClampNeg, h1, xin_lt h, by omega⟩
theorem isCa_of {k : Nat} (hk : isDk k) {i : Int32} (h : xin i 20 = true) : isCa (k + 87 + 3 * i.toNatClampNeg) := by
  obtain ⟨d, h1, h2⟩ := hk
  exact ⟨d, i.toNatClampNeg, h1, xin_lt h, by omega⟩
-- the reference
def flModel (Γ : xG) : (Nat → Int32) → List Value := fun I => [.int (I 0), .ref (Γ.2.1 1), .ref (Γ.2.1 2), .int (I 3), .ref (Γ.2.1 3), .int (I 5), .ref (Γ.2.1 4), .int (I 7), .int (I 8), .ref (Γ.2.1 5), .int (I 10), .int (I 11), .int (I 12), .int (I 13), .ref (Γ.2.1 6), .int (I 15), .ref (Γ.2.1 7), .ref (Γ.2.1 8), .ref (Γ.2.1 9), .int (I 19)]
def cRf (Γ : xG) (k : Nat) (I : Nat → Int32) (_ : Nat → Int64) : va_E :=
  if k = 0 then .inr (12, flModel Γ I)
  else if k = 1 then .inl (Γ.2.2 1, 1460, .inl I)
  else if k = 2 then .inl (Γ.2.2 1, 11680, .inl I)
  else if k = 3 then .inl (Γ.2.2 1, 1460, .inl I)
  else if k = 4 then .inl (Γ.2.2 1, 1460, .inl I)
  else if k = 5 then .inl (Γ.2.2 0, 60, .inl I)
  else if k = 6 then .inl (Γ.2.2 1, 10, .inl I)
  else if k = 7 then .inl (Γ.2.2 1, 8, .inl I)
  else if k = 8 then .inl (Γ.2.2 1, 3, .inl I)
  else .inl (Γ.2.2 0, 1200, .inl I)
abbrev wR (Γ : xG) : xM → va_W := wG 10 cRf Γ
theorem kR_model {Γ : xG} : xO Γ (wR Γ) 0 12 (flModel Γ) := wG_O (by omega) (fun I G => rfl)
theorem kR_g {Γ : xG} : xI Γ (wR Γ) 1 1460 := wG_I (by omega) (fun I G => rfl)
theorem kR_history {Γ : xG} : xI Γ (wR Γ) 2 11680 := wG_I (by omega) (fun I G => rfl)
theorem kR_kept {Γ : xG} : xI Γ (wR Γ) 3 1460 := wG_I (by omega) (fun I G => rfl)
theorem kR_aside {Γ : xG} : xI Γ (wR Γ) 4 1460 := wG_I (by omega) (fun I G => rfl)
theorem kR_tape {Γ : xG} : xC Γ (wR Γ) 5 60 := wG_C (by omega) (fun I G => rfl)
theorem kR_told {Γ : xG} : xI Γ (wR Γ) 6 10 := wG_I (by omega) (fun I G => rfl)
theorem kR_adds {Γ : xG} : xI Γ (wR Γ) 7 8 := wG_I (by omega) (fun I G => rfl)
theorem kR_wanted {Γ : xG} : xI Γ (wR Γ) 8 3 := wG_I (by omega) (fun I G => rfl)
theorem kR_paper {Γ : xG} : xC Γ (wR Γ) 9 1200 := wG_C (by omega) (fun I G => rfl)
