/-! THE NUMBERS' PART. A desk is a row G of Nats (the reference's order); where its entry i stands in the class: loc i = the place in the desk, and the field or entry there -/
def updN (G : Nat → Nat) (i x : Nat) : Nat → Nat := fun j => if j = i then x else G j
theorem updN_s {G : Nat → Nat} {i x : Nat} : updN G i x i = x := if_pos rfl
theorem updN_n {G : Nat → Nat} {i j x : Nat} (h : j ≠ i) : updN G i x j = G j := if_neg h
def locC (c r : Nat) : Nat × Nat := if r < 3 then (6 + 5 * c, r) else if r = 3 then (5 + 5 * c, 6) else if r < 7 then (5 + 5 * c, r - 2) else if r < 19 then (7 + 5 * c, r - 7) else if r < 31 then (8 + 5 * c, r - 19) else if r < 43 then (9 + 5 * c, r - 31) else if r = 43 then (5 + 5 * c, 5) else (5 + 5 * c, 1)
def locB (b r : Nat) : Nat × Nat := if r < 3 then (46 + 2 * b, r) else (45 + 2 * b, r - 2)
def locF (f r : Nat) : Nat × Nat := if r = 0 then (57 + 3 * f, 0) else if r < 9 then (58 + 3 * f, r - 1) else (59 + 3 * f, r - 9)
def locK (k r : Nat) : Nat × Nat := if r < 2 then (87 + 3 * k, r) else if r < 10 then (88 + 3 * k, r - 2) else (87 + 3 * k, r - 8)
def loc (i : Nat) : Nat × Nat := if i < 5 then (0, 4 + i) else if i < 373 then locC ((i - 5) / 46) ((i - 5) % 46) else if i < 409 then locB ((i - 373) / 6) ((i - 373) % 6) else if i < 579 then locF ((i - 409) / 17) ((i - 409) % 17) else locK ((i - 579) / 44) ((i - 579) % 44)
/-- entries that stand in the class too (not: the mixed cans of a base, the lots' bits, the two unused ones) -/
def isP (i : Nat) : Bool := if i < 5 then true else if i < 373 then (i - 5) % 46 != 45 else if i < 409 then (i - 373) % 6 != 5 else if i < 579 then true else decide (i < 1459) && decide ((i - 579) % 44 < 12)
def unloc (p s : Nat) : Nat :=
  if p < 5 then s - 4
  else if p < 45 then 5 + 46 * ((p - 5) / 5) + (if (p - 5) % 5 = 0 then (if s = 1 then 44 else if s = 5 then 43 else if s = 6 then 3 else s + 2) else if (p - 5) % 5 = 1 then s else if (p - 5) % 5 = 2 then 7 + s else if (p - 5) % 5 = 3 then 19 + s else 31 + s)
  else if p < 57 then 373 + 6 * ((p - 45) / 2) + (if (p - 45) % 2 = 0 then s + 2 else s)
  else if p < 87 then 409 + 17 * ((p - 57) / 3) + (if (p - 57) % 3 = 0 then 0 else if (p - 57) % 3 = 1 then s + 1 else s + 9)
  else 579 + 44 * ((p - 87) / 3) + (if (p - 87) % 3 = 0 then (if s < 2 then s else s + 8) else s + 2)
theorem unloc_all : ∀ i, i < 1460 → isP i = true → unloc (loc i).1 (loc i).2 = i := by decide +kernel
theorem loc_lt : ∀ i, i < 1460 → isP i = true → (loc i).1 < 147 := by decide +kernel
theorem isP_lt {i : Nat} (h : isP i = true) : i < 1460 := by
  unfold isP at h
  by_cases h1 : i < 579
  · omega
  · rw [if_neg (by omega), if_neg (by omega), if_neg (by omega), if_neg h1] at h
    have := of_decide_eq_true (Bool.and_eq_true_iff.mp h).1
    omega
theorem loc_inj {i j : Nat} (hi : isP i = true) (hj : isP j = true) (h : loc i = loc j) : i = j := by
  rw [← unloc_all i (isP_lt hi) hi, ← unloc_all j (isP_lt hj) hj, h]
/-- the desk at place b of M shows the entries V of G -/
def DR (V : Nat → Prop) (M : xM) (b : Nat) (G : Nat → Nat) : Prop := ∀ i, isP i = true → V i → M.1 (b + (loc i).1) (loc i).2 = nI (G i)
/-- the entries that say something: of a canister, its lots -/
def vis (G : Nat → Nat) (i : Nat) : Prop := 5 ≤ i → i < 373 → 7 ≤ (i - 5) % 46 → (i - 5) % 46 < 43 → ((i - 5) % 46 - 7) % 12 < G (5 + 46 * ((i - 5) / 46) + 3)
theorem DR.of {V : Nat → Prop} {M : xM} {b i k s : Nat} {G : Nat → Nat} (h : DR V M b G) (hi : isP i = true) (hv : V i) (hl : loc i = (k, s)) : M.1 (b + k) s = nI (G i) := by
  have h1 := h i hi hv
  rw [hl] at h1
  exact h1
theorem DR.mono {V W : Nat → Prop} {M : xM} {b : Nat} {G : Nat → Nat} (h : DR V M b G) (hw : ∀ i, isP i = true → W i → V i) : DR W M b G := fun i hi hv => h i hi (hw i hi hv)
/-- what the desk does not reach may change -/
theorem DR.cong {V : Nat → Prop} {M M1 : xM} {b : Nat} {G : Nat → Nat} (h : DR V M b G) (hm : ∀ k, k < 147 → M1.1 (b + k) = M.1 (b + k)) : DR V M1 b G := fun i hi hv => by rw [hm _ (loc_lt i (isP_lt hi) hi)]; exact h i hi hv
/-- one entry is written, on both sides -/
theorem DR.put {V : Nat → Prop} {M : xM} {b i k s x : Nat} {G : Nat → Nat} (h : DR V M b G) (hi : isP i = true) (hl : loc i = (k, s)) : DR (fun j => V j ∨ j = i) (xS M (b + k) (upd (M.1 (b + k)) s (nI x))) b (updN G i x) := by
  intro j hj hv
  show (if b + (loc j).1 = b + k then upd (M.1 (b + k)) s (nI x) else M.1 (b + (loc j).1)) (loc j).2 = nI (updN G i x j)
  by_cases hji : j = i
  · subst hji
    rw [hl, if_pos rfl, updN_s]
    exact if_pos rfl
  · rw [updN_n hji]
    have hv : V j := hv.resolve_right hji
    by_cases hk : b + (loc j).1 = b + k
    · rw [if_pos hk]
      have hs : (loc j).2 ≠ s := fun e => hji (loc_inj hj hi (by rw [hl]; exact Prod.ext (by omega) e))
      refine (if_neg hs).trans ?_
      rw [← hk]
      exact h j hj hv
    · rw [if_neg hk]
      exact h j hj hv
/-- where the named entries stand -/
theorem loc_n : ∀ r, r < 5 → loc r = (0, 4 + r) ∧ isP r = true := by decide
theorem loc_c : ∀ c, c < 8 → (∀ r, r < 3 → loc (5 + 46 * c + r) = (6 + 5 * c, r) ∧ isP (5 + 46 * c + r) = true) ∧ (loc (5 + 46 * c + 3) = (5 + 5 * c, 6) ∧ isP (5 + 46 * c + 3) = true) ∧ (loc (5 + 46 * c + 4) = (5 + 5 * c, 2) ∧ isP (5 + 46 * c + 4) = true) ∧ (loc (5 + 46 * c + 5) = (5 + 5 * c, 3) ∧ isP (5 + 46 * c + 5) = true) ∧ (loc (5 + 46 * c + 6) = (5 + 5 * c, 4) ∧ isP (5 + 46 * c + 6) = true) ∧ (loc (5 + 46 * c + 43) = (5 + 5 * c, 5) ∧ isP (5 + 46 * c + 43) = true) ∧ (loc (5 + 46 * c + 44) = (5 + 5 * c, 1) ∧ isP (5 + 46 * c + 44) = true) := by decide
theorem loc_l : ∀ c, c < 8 → ∀ j, j < 12 → (loc (5 + 46 * c + 7 + j) = (7 + 5 * c, j) ∧ isP (5 + 46 * c + 7 + j) = true) ∧ (loc (5 + 46 * c + 19 + j) = (8 + 5 * c, j) ∧ isP (5 + 46 * c + 19 + j) = true) ∧ (loc (5 + 46 * c + 31 + j) = (9 + 5 * c, j) ∧ isP (5 + 46 * c + 31 + j) = true) := by decide
theorem loc_b : ∀ b, b < 6 → (∀ r, r < 3 → loc (373 + 6 * b + r) = (46 + 2 * b, r) ∧ isP (373 + 6 * b + r) = true) ∧ (loc (373 + 6 * b + 3) = (45 + 2 * b, 1) ∧ isP (373 + 6 * b + 3) = true) ∧ (loc (373 + 6 * b + 4) = (45 + 2 * b, 2) ∧ isP (373 + 6 * b + 4) = true) := by decide
theorem loc_f : ∀ f, f < 10 → (loc (409 + 17 * f) = (57 + 3 * f, 0) ∧ isP (409 + 17 * f) = true) ∧ ∀ c, c < 8 → (loc (409 + 17 * f + 1 + c) = (58 + 3 * f, c) ∧ isP (409 + 17 * f + 1 + c) = true) ∧ (loc (409 + 17 * f + 9 + c) = (59 + 3 * f, c) ∧ isP (409 + 17 * f + 9 + c) = true) := by decide
theorem loc_k : ∀ k, k < 20 → (loc (579 + 44 * k) = (87 + 3 * k, 0) ∧ isP (579 + 44 * k) = true) ∧ (loc (579 + 44 * k + 1) = (87 + 3 * k, 1) ∧ isP (579 + 44 * k + 1) = true) ∧ (loc (579 + 44 * k + 10) = (87 + 3 * k, 2) ∧ isP (579 + 44 * k + 10) = true) ∧ (loc (579 + 44 * k + 11) = (87 + 3 * k, 3) ∧ isP (579 + 44 * k + 11) = true) ∧ ∀ c, c < 8 → loc (579 + 44 * k + 2 + c) = (88 + 3 * k, c) ∧ isP (579 + 44 * k + 2 + c) = true := by decide
/-- the lots' bits of a can for a colorant: bits L of the class's two words, and of the reference's four -/
def bM (x : Int64) (i : Nat) : Bool := x.toBitVec.getLsbD i
def bR (x : Int32) (i : Nat) : Bool := x.toBitVec.getLsbD i
def BR (M : xM) (b : Nat) (B : Nat → Nat → Nat → Bool) : Prop := ∀ k c q, k < 20 → c < 8 → q < 100 → bM (M.2 (b + 89 + 3 * k) (2 * c + q / 64)) (q % 64) = B k c q
def BG (r : Nat → Int32) (B : Nat → Nat → Nat → Bool) : Prop := ∀ k c q, k < 20 → c < 8 → q < 100 → bR (r (579 + 44 * k + 12 + 4 * c + q / 25)) (q % 25) = B k c q
theorem BR.cong {M M1 : xM} {b : Nat} {B : Nat → Nat → Nat → Bool} (h : BR M b B) (hm : ∀ k, k < 147 → M1.2 (b + k) = M.2 (b + k)) : BR M1 b B := fun k c q hk hc hq => by
  have e := hm (89 + 3 * k) (by omega)
  rw [show b + 89 + 3 * k = b + (89 + 3 * k) by omega, e, show b + (89 + 3 * k) = b + 89 + 3 * k by omega]
  exact h k c q hk hc hq
