/-! a change in one formula's amounts and carries -/
theorem GI.form {G G1 : Nat → Nat} {B : Nat → Nat → Nat → Bool} {f0 : Nat} (h : GI G B) (hf0 : f0 < 10) (e : ∀ j, (j < 409 + 17 * f0 + 1 ∨ 409 + 17 * f0 + 17 ≤ j) → G1 j = G j) (h9 : ∀ c, c < 8 → G1 (409 + 17 * f0 + 1 + c) ≤ 9999 ∧ G1 (409 + 17 * f0 + 9 + c) ≤ 99 ∧ (f0 < G 2 ∧ c < G 0 ∨ G1 (409 + 17 * f0 + 1 + c) = 0 ∧ G1 (409 + 17 * f0 + 9 + c) = 0)) : GI G1 B := by
  obtain ⟨h0, h1, h2, h3, h4⟩ := h
  have eK : ∀ k, allK G1 k = allK G k := fun k => sumN_cong (fun c hc => e _ (by omega))
  refine ⟨by rw [e 0 (by omega), e 1 (by omega), e 2 (by omega), e 3 (by omega), e 4 (by omega)]; exact h0, fun d hd => ?_, fun b hb => ?_, fun f hf => ?_, fun k hk => ?_⟩
  · obtain ⟨a1, a2, a3, a4⟩ := h1 d hd
    refine ⟨by rw [e _ (by omega)]; exact a1, fun r hr => by rw [e _ (by omega)]; exact a2 r hr, by rw [e _ (by omega)]; exact a3, fun j hj => ?_⟩
    rw [e _ (by omega)] at hj
    rw [e _ (by omega), e _ (by omega), e _ (by omega)]
    exact a4 j hj
  · obtain ⟨a1, a2, a3, a4⟩ := h2 b hb
    refine ⟨fun r hr => by rw [e _ (by omega)]; exact a1 r hr, by rw [e _ (by omega)]; exact a2, by rw [e _ (by omega)]; exact a3, ?_⟩
    rw [e 3 (by omega), e _ (by omega), a4]
    exact cntN_cong (fun k hk => by rw [e _ (by omega)])
  · obtain ⟨a1, a2⟩ := h3 f hf
    refine ⟨by rw [e 2 (by omega), e _ (by omega), e 1 (by omega)]; exact a1, fun d hd => ?_⟩
    by_cases hff : f = f0
    · subst hff
      rw [e 2 (by omega), e 0 (by omega)]
      exact h9 d hd
    · rw [e _ (by omega), e _ (by omega), e 2 (by omega), e 0 (by omega)]
      exact a2 d hd
  · obtain ⟨a1, a2, a3, a4, a5⟩ := h4 k hk
    refine ⟨fun hk3 => ?_, fun d hd => ?_, by rw [e _ (by omega), e _ (by omega)]; exact a3, by rw [eK, e _ (by omega)]; exact a4, ?_⟩
    · rw [e 3 (by omega)] at hk3
      obtain ⟨b1, b2, b3, b4⟩ := a1 hk3
      rw [e (579 + 44 * k) (by omega), e (579 + 44 * k + 1) (by omega), eK, e 2 (by omega), e 1 (by omega), e (409 + 17 * G (579 + 44 * k)) (by omega), e (373 + 6 * G (579 + 44 * k + 1) + 3) (by omega)]
      exact ⟨b1, b2, b3, b4⟩
    · rw [e _ (by omega), e 0 (by omega)]
      exact a2 d hd
    · rw [e 3 (by omega), e _ (by omega), e _ (by omega)]
      rcases a5 with a5 | ⟨a5, a6⟩
      · exact Or.inl a5
      · exact Or.inr ⟨fun d hd => by rw [e _ (by omega)]; exact a5 d hd, a6⟩
