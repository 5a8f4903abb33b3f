/-! a desk is copied to another -/
def Cq (a b : Nat) (T : Nat → Nat → Prop) (U : Nat → Prop) (M0 M : xM) : Prop := (∀ d j, d < 147 → T d j → M.1 (a + d) j = M0.1 (b + d) j) ∧ (∀ d j, d < 147 → U d → j < 16 → M.2 (a + d) j = M0.2 (b + d) j) ∧ ∀ r, r < a ∨ a + 147 ≤ r → M.1 r = M0.1 r ∧ M.2 r = M0.2 r
theorem Cq.rf {a b : Nat} {M : xM} : Cq a b (fun _ _ => False) (fun _ => False) M M := ⟨fun _ _ _ h => h.elim, fun _ _ _ h => h.elim, fun _ _ => ⟨rfl, rfl⟩⟩
theorem Cq.mono {a b : Nat} {T T1 : Nat → Nat → Prop} {U U1 : Nat → Prop} {M0 M : xM} (h : Cq a b T U M0 M) (h1 : ∀ d j, d < 147 → T1 d j → T d j) (h2 : ∀ d, d < 147 → U1 d → U d) : Cq a b T1 U1 M0 M := ⟨fun d j hd ht => h.1 d j hd (h1 d j hd ht), fun d j hd hu => h.2.1 d j hd (h2 d hd hu), h.2.2⟩
theorem Cq.src {a b d : Nat} {T : Nat → Nat → Prop} {U : Nat → Prop} {M0 M : xM} (h : Cq a b T U M0 M) (hab : a + 147 ≤ b ∨ b + 147 ≤ a) (hd : d < 147) : M.1 (b + d) = M0.1 (b + d) ∧ M.2 (b + d) = M0.2 (b + d) := h.2.2 _ (by omega)
theorem Cq.fld {a b : Nat} {T : Nat → Nat → Prop} {U : Nat → Prop} {M0 M : xM} (h : Cq a b T U M0 M) (hab : a + 147 ≤ b ∨ b + 147 ≤ a) {d : Nat} (s : Nat) (hd : d < 147) : Cq a b (fun x j => T x j ∨ (x = d ∧ j = s)) U M0 (xS M (a + d) (upd (M.1 (a + d)) s (M.1 (b + d) s))) := by
  refine ⟨fun x j hx ht => ?_, fun x j hx hu hj => h.2.1 x j hx hu hj, fun r hr => ⟨?_, (h.2.2 r hr).2⟩⟩
  · by_cases hxd : x = d
    · subst hxd
      rw [xS_at]
      by_cases hj : j = s
      · subst hj
        rw [pk_us, (h.src hab hx).1]
      · rw [pk_un hj]
        exact h.1 x j hx (ht.resolve_right (fun q => hj q.2))
    · rw [xS_ne (by omega)]
      exact h.1 x j hx (ht.resolve_right (fun q => hxd q.1))
  · rw [xS_ne (by omega)]
    exact (h.2.2 r hr).1
theorem Cq.row {a b : Nat} {T : Nat → Nat → Prop} {U : Nat → Prop} {M0 M : xM} (h : Cq a b T U M0 M) (hab : a + 147 ≤ b ∨ b + 147 ≤ a) {d : Nat} (n : Nat) (hd : d < 147) : Cq a b (fun x j => T x j ∨ (x = d ∧ j < n)) U M0 (xS M (a + d) (va_cpy (M.1 (b + d)) (M.1 (a + d)) 0 0 n)) := by
  refine ⟨fun x j hx ht => ?_, fun x j hx hu hj => h.2.1 x j hx hu hj, fun r hr => ⟨?_, (h.2.2 r hr).2⟩⟩
  · by_cases hxd : x = d
    · subst hxd
      rw [xS_at]
      by_cases hj : j < n
      · rw [pk_cpy_in (Nat.zero_le _) (by omega), (h.src hab hx).1, Nat.zero_add, Nat.sub_zero]
      · rw [pk_cpy_out (by omega)]
        exact h.1 x j hx (ht.resolve_right (fun q => hj q.2))
    · rw [xS_ne (by omega)]
      exact h.1 x j hx (ht.resolve_right (fun q => hxd q.1))
  · rw [xS_ne (by omega)]
    exact (h.2.2 r hr).1
theorem Cq.lng {a b : Nat} {T : Nat → Nat → Prop} {U : Nat → Prop} {M0 M : xM} (h : Cq a b T U M0 M) (hab : a + 147 ≤ b ∨ b + 147 ≤ a) {d : Nat} (hd : d < 147) : Cq a b T (fun x => U x ∨ x = d) M0 (xSL M (a + d) (va_cpy (M.2 (b + d)) (M.2 (a + d)) 0 0 16)) := by
  refine ⟨fun x j hx ht => h.1 x j hx ht, fun x j hx hu hj => ?_, fun r hr => ⟨(h.2.2 r hr).1, ?_⟩⟩
  · by_cases hxd : x = d
    · subst hxd
      show (if a + x = a + x then va_cpy (M.2 (b + x)) (M.2 (a + x)) 0 0 16 else M.2 (a + x)) j = _
      rw [if_pos rfl, pk_cpy_in (Nat.zero_le _) (by omega), (h.src hab hx).2, Nat.zero_add, Nat.sub_zero]
    · show (if a + x = a + d then va_cpy (M.2 (b + d)) (M.2 (a + d)) 0 0 16 else M.2 (a + x)) j = _
      rw [if_neg (by omega)]
      exact h.2.1 x j hx (hu.resolve_right hxd) hj
  · show (if r = a + d then va_cpy (M.2 (b + d)) (M.2 (a + d)) 0 0 16 else M.2 r) = _
    rw [if_neg (by omega)]
    exact (h.2.2 r hr).2
theorem cq_X2 {N a b d : Nat} {T : Nat → Nat → Prop} {U : Nat → Prop} {M0 M : xM} (h : Cq a b T U M0 M) (hab : a + 147 ≤ b ∨ b + 147 ≤ a) (hd : d + 4 < 147) : ∃ M1, F_X2_copyFrom N (a + d) (b + d) M = some (M1, 0) ∧ Cq a b (fun x j => T x j ∨ (x = d ∧ 1 ≤ j ∧ j < 7) ∨ (x = d + 1 ∧ j < 3) ∨ (d + 2 ≤ x ∧ x < d + 5 ∧ j < 12)) (U) M0 M1 := by
  refine ⟨_, rfl, ?_⟩
  have h1 := (Cq.row (Cq.row (Cq.row (Cq.fld (Cq.fld (Cq.fld (Cq.fld (Cq.fld (Cq.fld (Cq.row h hab (d := d + 1) 3 (by omega)) hab (d := d) 1 (by omega)) hab (d := d) 2 (by omega)) hab (d := d) 3 (by omega)) hab (d := d) 4 (by omega)) hab (d := d) 5 (by omega)) hab (d := d) 6 (by omega)) hab (d := d + 2) 12 (by omega)) hab (d := d + 3) 12 (by omega)) hab (d := d + 4) 12 (by omega))
  exact h1.mono (fun x j hx ht => by rcases ht with ht | ht <;> first | (simp only [ht, true_or]; done) | (simp only [or_assoc]; refine Or.inr ?_; omega)) (fun x hx hu => hu)
theorem cq_X0 {N a b d : Nat} {T : Nat → Nat → Prop} {U : Nat → Prop} {M0 M : xM} (h : Cq a b T U M0 M) (hab : a + 147 ≤ b ∨ b + 147 ≤ a) (hd : d + 1 < 147) : ∃ M1, F_X0_copyFrom N (a + d) (b + d) M = some (M1, 0) ∧ Cq a b (fun x j => T x j ∨ (x = d ∧ 1 ≤ j ∧ j < 3) ∨ (x = d + 1 ∧ j < 3)) (U) M0 M1 := by
  refine ⟨_, rfl, ?_⟩
  have h1 := (Cq.fld (Cq.fld (Cq.row h hab (d := d + 1) 3 (by omega)) hab (d := d) 1 (by omega)) hab (d := d) 2 (by omega))
  exact h1.mono (fun x j hx ht => by rcases ht with ht | ht <;> first | (simp only [ht, true_or]; done) | (simp only [or_assoc]; refine Or.inr ?_; omega)) (fun x hx hu => hu)
theorem cq_X4 {N a b d : Nat} {T : Nat → Nat → Prop} {U : Nat → Prop} {M0 M : xM} (h : Cq a b T U M0 M) (hab : a + 147 ≤ b ∨ b + 147 ≤ a) (hd : d + 2 < 147) : ∃ M1, F_X4_copyFrom N (a + d) (b + d) M = some (M1, 0) ∧ Cq a b (fun x j => T x j ∨ (x = d ∧ j = 0) ∨ (d + 1 ≤ x ∧ x < d + 3 ∧ j < 8)) (U) M0 M1 := by
  refine ⟨_, rfl, ?_⟩
  have h1 := (Cq.row (Cq.row (Cq.fld h hab (d := d) 0 (by omega)) hab (d := d + 1) 8 (by omega)) hab (d := d + 2) 8 (by omega))
  exact h1.mono (fun x j hx ht => by rcases ht with ht | ht <;> first | (simp only [ht, true_or]; done) | (simp only [or_assoc]; refine Or.inr ?_; omega)) (fun x hx hu => hu)
theorem cq_X1 {N a b d : Nat} {T : Nat → Nat → Prop} {U : Nat → Prop} {M0 M : xM} (h : Cq a b T U M0 M) (hab : a + 147 ≤ b ∨ b + 147 ≤ a) (hd : d + 2 < 147) : ∃ M1, F_X1_copyFrom N (a + d) (b + d) M = some (M1, 0) ∧ Cq a b (fun x j => T x j ∨ (x = d ∧ j < 4) ∨ (x = d + 1 ∧ j < 8)) (fun x => U x ∨ x = d + 2) M0 M1 := by
  refine ⟨_, rfl, ?_⟩
  have h1 := (Cq.lng (Cq.row (Cq.fld (Cq.fld (Cq.fld (Cq.fld h hab (d := d) 0 (by omega)) hab (d := d) 1 (by omega)) hab (d := d) 2 (by omega)) hab (d := d) 3 (by omega)) hab (d := d + 1) 8 (by omega)) hab (d := d + 2) (by omega))
  exact h1.mono (fun x j hx ht => by rcases ht with ht | ht <;> first | (simp only [ht, true_or]; done) | (simp only [or_assoc]; refine Or.inr ?_; omega)) (fun x hx hu => hu)
