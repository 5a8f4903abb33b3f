/-! the whole desk -/
def TC (n x j : Nat) : Prop := 5 ≤ x ∧ x < 5 + 5 * n ∧ ((x - 5) % 5 = 0 ∧ 1 ≤ j ∧ j < 7 ∨ (x - 5) % 5 = 1 ∧ j < 3 ∨ 2 ≤ (x - 5) % 5 ∧ j < 12)
def TB (n x j : Nat) : Prop := 45 ≤ x ∧ x < 45 + 2 * n ∧ ((x - 45) % 2 = 0 ∧ 1 ≤ j ∧ j < 3 ∨ (x - 45) % 2 = 1 ∧ j < 3)
def TF (n x j : Nat) : Prop := 57 ≤ x ∧ x < 57 + 3 * n ∧ ((x - 57) % 3 = 0 ∧ j = 0 ∨ 1 ≤ (x - 57) % 3 ∧ j < 8)
def TK (n x j : Nat) : Prop := 87 ≤ x ∧ x < 87 + 3 * n ∧ ((x - 87) % 3 = 0 ∧ j < 4 ∨ (x - 87) % 3 = 1 ∧ j < 8)
def UK (n x : Nat) : Prop := 87 ≤ x ∧ x < 87 + 3 * n ∧ (x - 87) % 3 = 2
theorem cl_89 {N a b : Nat} {M0 : xM} (hab : a + 147 ≤ b ∨ b + 147 ≤ a) (hN : 30 ≤ N) : ∀ (n i : Nat) (T : Nat → Nat → Prop) (M : xM), i ≤ 20 → 20 < n + i → Cq a b (fun x j => T x j ∨ TK i x j) (UK i) M0 M → ∃ M1, L_X3_copyFrom_89 N a b n (nI i) M = some (M1, 0) ∧ Cq a b (fun x j => T x j ∨ TK 20 x j ∨ x = 0 ∧ 4 ≤ j ∧ j < 9) (UK 20) M0 M1 := by
  intro n
  induction n with
  | zero => intro i T M h1 h2; omega
  | succ n ih =>
    intro i T M h1 h2 h
    rw [L_X3_copyFrom_89]
    by_cases hi : i = 20
    · subst hi
      rw [if_pos (show (20 : Int32) ≤ nI 20 from by decide)]
      refine ⟨_, rfl, ?_⟩
      have h9 := Cq.fld (d := 0) (Cq.fld (d := 0) (Cq.fld (d := 0) (Cq.fld (d := 0) (Cq.fld (d := 0) h hab 4 (by omega)) hab 5 (by omega)) hab 6 (by omega)) hab 7 (by omega)) hab 8 (by omega)
      refine h9.mono (fun x j hx ht => ?_) (fun x hx hu => hu)
      rcases ht with ht | ht | ht
      · simp only [ht, true_or]
      · simp only [ht, true_or, or_true]
      · simp only [or_assoc]; refine Or.inr (Or.inr ?_); omega
    · rw [if_neg (show ¬ (20 : Int32) ≤ nI i from nI_ge (a := i) (b := 20) (by omega) (by decide)), ck_nI (by omega) (by decide), ck_nI (by omega) (by decide), nI_clamp (by omega)]
      obtain ⟨M1, e1, h9⟩ := cq_X1 (N := N) (d := 87 + 3 * i) h hab (by omega)
      rw [show a + 87 + 3 * i = a + (87 + 3 * i) from Nat.add_assoc _ _ _, show b + 87 + 3 * i = b + (87 + 3 * i) from Nat.add_assoc _ _ _, e1, xbd_some, xl_v, nI_1]
      refine ih (i + 1) T M1 (by omega) (by omega) (h9.mono (fun x j hx ht => ?_) (fun x hx hu => ?_))
      · rcases ht with ht | ht
        · simp only [ht, true_or]
        · by_cases hxi : x < 87 + 3 * i
          · have : TK i x j := by unfold TK at ht ⊢; omega
            simp only [this, true_or, or_true]
          · refine Or.inr ?_
            unfold TK at ht
            omega
      · by_cases hxi : x < 87 + 3 * i
        · exact Or.inl (by unfold UK at hu ⊢; omega)
        · exact Or.inr (by unfold UK at hu; omega)
theorem cl_60 {N a b : Nat} {M0 : xM} (hab : a + 147 ≤ b ∨ b + 147 ≤ a) (hN : 30 ≤ N) : ∀ (n i : Nat) (T : Nat → Nat → Prop) (M : xM), i ≤ 10 → 10 < n + i → Cq a b (fun x j => T x j ∨ TF i x j) (UK 0) M0 M → ∃ M1, L_X3_copyFrom_60 N a b n (nI i) M = some (M1, 0) ∧ Cq a b (fun x j => T x j ∨ TF 10 x j ∨ TK 20 x j ∨ x = 0 ∧ 4 ≤ j ∧ j < 9) (UK 20) M0 M1 := by
  intro n
  induction n with
  | zero => intro i T M h1 h2; omega
  | succ n ih =>
    intro i T M h1 h2 h
    rw [L_X3_copyFrom_60]
    by_cases hi : i = 10
    · subst hi
      rw [if_pos (show (10 : Int32) ≤ nI 10 from by decide)]
      have hm : Cq a b (fun x j => (T x j ∨ TF 10 x j) ∨ TK 0 x j) (UK 0) M0 M := by
        refine h.mono (fun x j hx ht => ?_) (fun x hx hu => hu)
        rcases ht with ht | ht
        · exact ht
        · exact absurd ht (by unfold TK; omega)
      obtain ⟨M1, e1, h9⟩ := cl_89 hab hN N 0 (fun x j => T x j ∨ TF 10 x j) M (by omega) (by omega) hm
      refine ⟨M1, e1, h9.mono (fun x j hx ht => ?_) (fun x hx hu => hu)⟩
      simp only [or_assoc]
      exact ht
    · rw [if_neg (show ¬ (10 : Int32) ≤ nI i from nI_ge (a := i) (b := 10) (by omega) (by decide)), ck_nI (by omega) (by decide), ck_nI (by omega) (by decide), nI_clamp (by omega)]
      obtain ⟨M1, e1, h9⟩ := cq_X4 (N := N) (d := 57 + 3 * i) h hab (by omega)
      rw [show a + 57 + 3 * i = a + (57 + 3 * i) from Nat.add_assoc _ _ _, show b + 57 + 3 * i = b + (57 + 3 * i) from Nat.add_assoc _ _ _, e1, xbd_some, xl_v, nI_1]
      refine ih (i + 1) T M1 (by omega) (by omega) (h9.mono (fun x j hx ht => ?_) (fun x hx hu => ?_))
      · rcases ht with ht | ht
        · simp only [ht, true_or]
        · by_cases hxi : x < 57 + 3 * i
          · have : TF i x j := by unfold TF at ht ⊢; omega
            simp only [this, true_or, or_true]
          · refine Or.inr ?_
            unfold TF at ht
            omega
      · exact hu
theorem cl_31 {N a b : Nat} {M0 : xM} (hab : a + 147 ≤ b ∨ b + 147 ≤ a) (hN : 30 ≤ N) : ∀ (n i : Nat) (T : Nat → Nat → Prop) (M : xM), i ≤ 6 → 6 < n + i → Cq a b (fun x j => T x j ∨ TB i x j) (UK 0) M0 M → ∃ M1, L_X3_copyFrom_31 N a b n (nI i) M = some (M1, 0) ∧ Cq a b (fun x j => T x j ∨ TB 6 x j ∨ TF 10 x j ∨ TK 20 x j ∨ x = 0 ∧ 4 ≤ j ∧ j < 9) (UK 20) M0 M1 := by
  intro n
  induction n with
  | zero => intro i T M h1 h2; omega
  | succ n ih =>
    intro i T M h1 h2 h
    rw [L_X3_copyFrom_31]
    by_cases hi : i = 6
    · subst hi
      rw [if_pos (show (6 : Int32) ≤ nI 6 from by decide)]
      have hm : Cq a b (fun x j => (T x j ∨ TB 6 x j) ∨ TF 0 x j) (UK 0) M0 M := by
        refine h.mono (fun x j hx ht => ?_) (fun x hx hu => hu)
        rcases ht with ht | ht
        · exact ht
        · exact absurd ht (by unfold TF; omega)
      obtain ⟨M1, e1, h9⟩ := cl_60 hab hN N 0 (fun x j => T x j ∨ TB 6 x j) M (by omega) (by omega) hm
      refine ⟨M1, e1, h9.mono (fun x j hx ht => ?_) (fun x hx hu => hu)⟩
      simp only [or_assoc]
      exact ht
    · rw [if_neg (show ¬ (6 : Int32) ≤ nI i from nI_ge (a := i) (b := 6) (by omega) (by decide)), ck_nI (by omega) (by decide), ck_nI (by omega) (by decide), nI_clamp (by omega)]
      obtain ⟨M1, e1, h9⟩ := cq_X0 (N := N) (d := 45 + 2 * i) h hab (by omega)
      rw [show a + 45 + 2 * i = a + (45 + 2 * i) from Nat.add_assoc _ _ _, show b + 45 + 2 * i = b + (45 + 2 * i) from Nat.add_assoc _ _ _, e1, xbd_some, xl_v, nI_1]
      refine ih (i + 1) T M1 (by omega) (by omega) (h9.mono (fun x j hx ht => ?_) (fun x hx hu => ?_))
      · rcases ht with ht | ht
        · simp only [ht, true_or]
        · by_cases hxi : x < 45 + 2 * i
          · have : TB i x j := by unfold TB at ht ⊢; omega
            simp only [this, true_or, or_true]
          · refine Or.inr ?_
            unfold TB at ht
            omega
      · exact hu
theorem cl_2 {N a b : Nat} {M0 : xM} (hab : a + 147 ≤ b ∨ b + 147 ≤ a) (hN : 30 ≤ N) : ∀ (n i : Nat) (T : Nat → Nat → Prop) (M : xM), i ≤ 8 → 8 < n + i → Cq a b (fun x j => T x j ∨ TC i x j) (UK 0) M0 M → ∃ M1, L_X3_copyFrom_2 N a b n (nI i) M = some (M1, 0) ∧ Cq a b (fun x j => T x j ∨ TC 8 x j ∨ TB 6 x j ∨ TF 10 x j ∨ TK 20 x j ∨ x = 0 ∧ 4 ≤ j ∧ j < 9) (UK 20) M0 M1 := by
  intro n
  induction n with
  | zero => intro i T M h1 h2; omega
  | succ n ih =>
    intro i T M h1 h2 h
    rw [L_X3_copyFrom_2]
    by_cases hi : i = 8
    · subst hi
      rw [if_pos (show (8 : Int32) ≤ nI 8 from by decide)]
      have hm : Cq a b (fun x j => (T x j ∨ TC 8 x j) ∨ TB 0 x j) (UK 0) M0 M := by
        refine h.mono (fun x j hx ht => ?_) (fun x hx hu => hu)
        rcases ht with ht | ht
        · exact ht
        · exact absurd ht (by unfold TB; omega)
      obtain ⟨M1, e1, h9⟩ := cl_31 hab hN N 0 (fun x j => T x j ∨ TC 8 x j) M (by omega) (by omega) hm
      refine ⟨M1, e1, h9.mono (fun x j hx ht => ?_) (fun x hx hu => hu)⟩
      simp only [or_assoc]
      exact ht
    · rw [if_neg (show ¬ (8 : Int32) ≤ nI i from nI_ge (a := i) (b := 8) (by omega) (by decide)), ck_nI (by omega) (by decide), ck_nI (by omega) (by decide), nI_clamp (by omega)]
      obtain ⟨M1, e1, h9⟩ := cq_X2 (N := N) (d := 5 + 5 * i) h hab (by omega)
      rw [show a + 5 + 5 * i = a + (5 + 5 * i) from Nat.add_assoc _ _ _, show b + 5 + 5 * i = b + (5 + 5 * i) from Nat.add_assoc _ _ _, e1, xbd_some, xl_v, nI_1]
      refine ih (i + 1) T M1 (by omega) (by omega) (h9.mono (fun x j hx ht => ?_) (fun x hx hu => ?_))
      · rcases ht with ht | ht
        · simp only [ht, true_or]
        · by_cases hxi : x < 5 + 5 * i
          · have : TC i x j := by unfold TC at ht ⊢; omega
            simp only [this, true_or, or_true]
          · refine Or.inr ?_
            unfold TC at ht
            omega
      · exact hu
def relTb (x j : Nat) : Bool := (decide (5 ≤ x) && decide (x < 45) && (decide ((x - 5) % 5 = 0) && decide (1 ≤ j) && decide (j < 7) || decide ((x - 5) % 5 = 1) && decide (j < 3) || decide (2 ≤ (x - 5) % 5) && decide (j < 12))) || (decide (45 ≤ x) && decide (x < 57) && (decide ((x - 45) % 2 = 0) && decide (1 ≤ j) && decide (j < 3) || decide ((x - 45) % 2 = 1) && decide (j < 3))) || (decide (57 ≤ x) && decide (x < 87) && (decide ((x - 57) % 3 = 0) && decide (j = 0) || decide (1 ≤ (x - 57) % 3) && decide (j < 8))) || (decide (87 ≤ x) && decide (x < 147) && (decide ((x - 87) % 3 = 0) && decide (j < 4) || decide ((x - 87) % 3 = 1) && decide (j < 8))) || (decide (x = 0) && decide (4 ≤ j) && decide (j < 9))
theorem relTb_all : ∀ i, i < 1460 → isP i = true → relTb (loc i).1 (loc i).2 = true := by decide +kernel
theorem relT (i : Nat) (hi : i < 1460) (hp : isP i = true) : TC 8 (loc i).1 (loc i).2 ∨ TB 6 (loc i).1 (loc i).2 ∨ TF 10 (loc i).1 (loc i).2 ∨ TK 20 (loc i).1 (loc i).2 ∨ (loc i).1 = 0 ∧ 4 ≤ (loc i).2 ∧ (loc i).2 < 9 := by
  have h := relTb_all i hi hp
  generalize (loc i).1 = x at h ⊢
  generalize (loc i).2 = j at h ⊢
  simp only [relTb, Bool.and_eq_true, Bool.or_eq_true, decide_eq_true_eq] at h
  rcases h with (((h | h) | h) | h) | h
  · refine Or.inl ?_
    unfold TC
    refine ⟨h.1.1, h.1.2, ?_⟩
    have h2 := h.2
    clear h
    omega
  · refine Or.inr (Or.inl ?_)
    unfold TB
    refine ⟨h.1.1, h.1.2, ?_⟩
    have h2 := h.2
    clear h
    omega
  · refine Or.inr (Or.inr (Or.inl ?_))
    unfold TF
    refine ⟨h.1.1, h.1.2, ?_⟩
    have h2 := h.2
    clear h
    omega
  · refine Or.inr (Or.inr (Or.inr (Or.inl ?_)))
    unfold TK
    refine ⟨h.1.1, h.1.2, ?_⟩
    have h2 := h.2
    clear h
    omega
  · exact Or.inr (Or.inr (Or.inr (Or.inr ⟨h.1.1, h.1.2, h.2⟩)))
/-- copyFrom -/
theorem copyFrom_ok {N a b : Nat} {M : xM} (hab : a + 147 ≤ b ∨ b + 147 ≤ a) (hN : 30 ≤ N) : ∃ M1, F_X3_copyFrom N a b M = some (M1, 0) ∧ (∀ i, isP i = true → M1.1 (a + (loc i).1) (loc i).2 = M.1 (b + (loc i).1) (loc i).2) ∧ (∀ k j, k < 20 → j < 16 → M1.2 (a + 89 + 3 * k) j = M.2 (b + 89 + 3 * k) j) ∧ ∀ r, r < a ∨ a + 147 ≤ r → M1.1 r = M.1 r ∧ M1.2 r = M.2 r := by
  obtain ⟨M1, e1, h1, h2, h3⟩ := cl_2 (N := N) (a := a) (b := b) hab hN N 0 (fun _ _ => False) M (by omega) (by omega) (Cq.rf.mono (fun x j hx ht => ht.elim (fun f => f) (fun ht => by unfold TC at ht; omega)) (fun x hx hu => by unfold UK at hu; omega))
  refine ⟨M1, e1, fun i hi => h1 _ _ (loc_lt i (isP_lt hi) hi) (Or.inr (relT i (isP_lt hi) hi)), fun k j hk hj => ?_, h3⟩
  have h9 := h2 (89 + 3 * k) j (by omega) (by unfold UK; omega) hj
  rw [show a + 89 + 3 * k = a + (89 + 3 * k) from Nat.add_assoc _ _ _, show b + 89 + 3 * k = b + (89 + 3 * k) from Nat.add_assoc _ _ _]
  exact h9
/-- what a copied desk shows -/
theorem DS.copied {M M1 : xM} {a b : Nat} {r : Nat → Int32} {G : Nat → Nat} {B : Nat → Nat → Nat → Bool} (h : DS M b r G B) (h1 : ∀ i, isP i = true → M1.1 (a + (loc i).1) (loc i).2 = M.1 (b + (loc i).1) (loc i).2) (h2 : ∀ k j, k < 20 → j < 16 → M1.2 (a + 89 + 3 * k) j = M.2 (b + 89 + 3 * k) j) : DS M1 a r G B :=
  ⟨fun i hi hv => (h1 i hi).trans (h.1 i hi hv), fun k c q hk hc hq => by rw [h2 k _ hk (by omega)]; exact h.2.1 k c q hk hc hq, h.2.2⟩
