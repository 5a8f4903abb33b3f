/-! writing to a desk -/
def DP (V : Nat → Prop) (M : xM) (b : Nat) (r : Nat → Int32) (G : Nat → Nat) (B : Nat → Nat → Nat → Bool) : Prop := DR V M b G ∧ BR M b B ∧ (∀ i, i < 1460 → r i = nI (G i)) ∧ BG r B
theorem DS.dp {M : xM} {b : Nat} {r : Nat → Int32} {G : Nat → Nat} {B : Nat → Nat → Nat → Bool} (h : DS M b r G B) : DP (vis G) M b r G B := ⟨h.1, h.2.1, h.2.2.1, h.2.2.2.1⟩
theorem DP.ds {V : Nat → Prop} {M : xM} {b : Nat} {r : Nat → Int32} {G : Nat → Nat} {B : Nat → Nat → Nat → Bool} (h : DP V M b r G B) (hv : ∀ i, isP i = true → vis G i → V i) (hg : GI G B) : DS M b r G B := ⟨h.1.mono hv, h.2.1, h.2.2.1, h.2.2.2, hg⟩
theorem isP_bit {i k c q : Nat} (h : isP i = true) (hk : k < 20) (hc : c < 8) (hq : q < 100) : 579 + 44 * k + 12 + 4 * c + q / 25 ≠ i := by
  intro e
  subst e
  unfold isP at h
  rw [if_neg (by omega), if_neg (by omega), if_neg (by omega), if_neg (by omega)] at h
  have := of_decide_eq_true (Bool.and_eq_true_iff.mp h).2
  omega
theorem BG.put {r : Nat → Int32} {B : Nat → Nat → Nat → Bool} (h : BG r B) {i : Nat} {x : Int32} (hi : ∀ k c q, k < 20 → c < 8 → q < 100 → 579 + 44 * k + 12 + 4 * c + q / 25 ≠ i) : BG (upd r i x) B := fun k c q hk hc hq => by
  rw [pk_un (hi k c q hk hc hq)]
  exact h k c q hk hc hq
theorem DP.put {V : Nat → Prop} {M : xM} {b i k s x : Nat} {r : Nat → Int32} {G : Nat → Nat} {B : Nat → Nat → Nat → Bool} (h : DP V M b r G B) (hl : loc i = (k, s) ∧ isP i = true) : DP (fun j => V j ∨ j = i) (xS M (b + k) (upd (M.1 (b + k)) s (nI x))) b (upd r i (nI x)) (updN G i x) B := by
  refine ⟨h.1.put hl.2 hl.1, h.2.1, fun j hj => ?_, h.2.2.2.put (fun k c q hk hc hq => isP_bit hl.2 hk hc hq)⟩
  by_cases hji : j = i
  · subst hji
    rw [pk_us, updN_s]
  · rw [pk_un hji, updN_n hji]
    exact h.2.2.1 j hj
/-- an entry of the reference alone: not shown by the class -/
theorem DP.putR {V : Nat → Prop} {M : xM} {b i x : Nat} {r : Nat → Int32} {G : Nat → Nat} {B : Nat → Nat → Nat → Bool} (h : DP V M b r G B) (hv : ¬ V i ∨ isP i = false) (hb : ∀ k c q, k < 20 → c < 8 → q < 100 → 579 + 44 * k + 12 + 4 * c + q / 25 ≠ i) : DP V M b (upd r i (nI x)) (updN G i x) B := by
  refine ⟨fun j hj hvj => ?_, h.2.1, fun j hj => ?_, h.2.2.2.put hb⟩
  · have hji : j ≠ i := fun e => by
      subst e
      rcases hv with hv | hv
      · exact hv hvj
      · rw [hv] at hj; cases hj
    rw [updN_n hji]
    exact h.1 j hj hvj
  · by_cases hji : j = i
    · subst hji
      rw [pk_us, updN_s]
    · rw [pk_un hji, updN_n hji]
      exact h.2.2.1 j hj
/-- the canisters' counts rule what is seen -/
theorem vis_same {G G1 : Nat → Nat} (h : ∀ c, c < 8 → G1 (5 + 46 * c + 3) = G (5 + 46 * c + 3)) {i : Nat} (hv : vis G1 i) : vis G i := fun h1 h2 h3 h4 => by
  rw [← h _ (by omega)]
  exact hv h1 h2 h3 h4
/-- after a change: what is left of class and reference goes with it -/
theorem Rel.after {M M1 R R1 : xM} {G : Nat → Nat} {B : Nat → Nat → Nat → Bool} (hx : RelX M R) (hm : sameX M M1) (hr : sameR R R1) (hd : DS M1 0 (R1.1 1) G B) : Rel M1 R1 := ⟨⟨G, B, hd⟩, hx.cong hm hr⟩
theorem sameX.put {M : xM} {k : Nat} {f : Nat → Int32} (hk : k < 147) : sameX M (xS M k f) := ⟨fun j h1 h2 => xS_ne (by omega), fun _ _ _ => rfl⟩
theorem sameR.put {R : xM} {k : Nat} {f : Nat → Int32} (hk : k = 1 ∨ k = 4 ∨ 6 ≤ k) : sameR R (xS R k f) := by
  have e : ∀ p, p ≠ k → (xS R k f).1 p = R.1 p := fun p hp => xS_ne hp
  exact ⟨e 2 (by omega), e 3 (by omega), e 5 (by omega), by rw [e 0 (by omega)], by rw [e 0 (by omega)], by rw [e 0 (by omega)], by rw [e 0 (by omega)], by rw [e 0 (by omega)], by rw [e 0 (by omega)]⟩
/-- two entries that nothing of GI but a bound speaks of -/
theorem cnt_upd {G : Nat → Nat} {i x b : Nat} (h0 : 3 ≠ i) (h : ∀ k, k < 20 → 579 + 44 * k + 1 ≠ i) (h3 : G 3 ≤ 20) : cntN (fun k => decide (updN G i x (579 + 44 * k + 1) = b)) (updN G i x 3) = cntN (fun k => decide (G (579 + 44 * k + 1) = b)) (G 3) := by
  rw [updN_n h0]
  exact cntN_cong (fun k hk => by rw [updN_n (h k (by omega))])
theorem allK_upd {G : Nat → Nat} {i x k : Nat} (h : ∀ c, c < 8 → 579 + 44 * k + 2 + c ≠ i) : allK (updN G i x) k = allK G k := sumN_cong (fun c hc => updN_n (h c hc))
/-- a change in one canister's entries -/
theorem GI.col {G G1 : Nat → Nat} {B : Nat → Nat → Nat → Bool} {c : Nat} (h : GI G B) (hc : c < 8) (e : ∀ j, (j < 5 + 46 * c ∨ 5 + 46 * c + 46 ≤ j) → G1 j = G j) (h9 : GIc G1 c) : GI G1 B := by
  obtain ⟨h0, h1, h2, h3, h4⟩ := h
  have eK : ∀ k, allK G1 k = allK G k := fun k => sumN_cong (fun c hc => e _ (by omega))
  refine ⟨by rw [e 0 (by omega), e 1 (by omega), e 2 (by omega), e 3 (by omega), e 4 (by omega)]; exact h0, fun d hd => ?_, fun b hb => ?_, fun f hf => ?_, fun k hk => ?_⟩
  · by_cases hdc : d = c
    · subst hdc
      exact h9
    · obtain ⟨a1, a2, a3, a4⟩ := h1 d hd
      refine ⟨by rw [e _ (by omega)]; exact a1, fun r hr => by rw [e _ (by omega)]; exact a2 r hr, by rw [e _ (by omega)]; exact a3, fun j hj => ?_⟩
      rw [e _ (by omega)] at hj
      rw [e _ (by omega), e _ (by omega), e _ (by omega)]
      exact a4 j hj
  · obtain ⟨a1, a2, a3, a4⟩ := h2 b hb
    refine ⟨fun r hr => by rw [e _ (by omega)]; exact a1 r hr, by rw [e _ (by omega)]; exact a2, by rw [e _ (by omega)]; exact a3, ?_⟩
    rw [e 3 (by omega), e _ (by omega), a4]
    exact cntN_cong (fun k hk => by rw [e _ (by omega)])
  · obtain ⟨a1, a2⟩ := h3 f hf
    refine ⟨by rw [e 2 (by omega), e _ (by omega), e 1 (by omega)]; exact a1, fun d hd => ?_⟩
    rw [e _ (by omega), e _ (by omega), e 2 (by omega), e 0 (by omega)]
    exact a2 d hd
  · obtain ⟨a1, a2, a3, a4, a5⟩ := h4 k hk
    refine ⟨fun hk3 => ?_, fun d hd => ?_, by rw [e _ (by omega), e _ (by omega)]; exact a3, by rw [eK, e _ (by omega)]; exact a4, ?_⟩
    · rw [e 3 (by omega)] at hk3
      obtain ⟨b1, b2, b3, b4⟩ := a1 hk3
      rw [e (579 + 44 * k) (by omega), e (579 + 44 * k + 1) (by omega), eK, e 2 (by omega), e 1 (by omega), e (409 + 17 * G (579 + 44 * k)) (by omega), e (373 + 6 * G (579 + 44 * k + 1) + 3) (by omega)]
      exact ⟨b1, b2, b3, b4⟩
    · rw [e _ (by omega), e 0 (by omega)]
      exact a2 d hd
    · rw [e 3 (by omega), e _ (by omega), e _ (by omega)]
      rcases a5 with a5 | ⟨a5, a6⟩
      · exact Or.inl a5
      · exact Or.inr ⟨fun d hd => by rw [e _ (by omega)]; exact a5 d hd, a6⟩
/-- a change in one base's stock -/
theorem GI.stock {G G1 : Nat → Nat} {B : Nat → Nat → Nat → Bool} {b0 : Nat} (h : GI G B) (hb0 : b0 < 6) (e : ∀ j, j ≠ 373 + 6 * b0 + 4 → G1 j = G j) (h9 : G1 (373 + 6 * b0 + 4) ≤ 99) : GI G1 B := by
  obtain ⟨h0, h1, h2, h3, h4⟩ := h
  have eK : ∀ k, allK G1 k = allK G k := fun k => sumN_cong (fun c hc => e _ (by omega))
  refine ⟨by rw [e 0 (by omega), e 1 (by omega), e 2 (by omega), e 3 (by omega), e 4 (by omega)]; exact h0, fun d hd => ?_, fun b hb => ?_, fun f hf => ?_, fun k hk => ?_⟩
  · obtain ⟨a1, a2, a3, a4⟩ := h1 d hd
    refine ⟨by rw [e _ (by omega)]; exact a1, fun r hr => by rw [e _ (by omega)]; exact a2 r hr, by rw [e _ (by omega)]; exact a3, fun j hj => ?_⟩
    rw [e _ (by omega)] at hj
    rw [e _ (by omega), e _ (by omega), e _ (by omega)]
    exact a4 j hj
  · obtain ⟨a1, a2, a3, a4⟩ := h2 b hb
    refine ⟨fun r hr => by rw [e _ (by omega)]; exact a1 r hr, by rw [e _ (by omega)]; exact a2, ?_, ?_⟩
    · by_cases hbb : b = b0
      · subst hbb
        exact h9
      · rw [e _ (by omega)]
        exact a3
    · rw [e 3 (by omega), e _ (by omega), a4]
      exact cntN_cong (fun k hk => by rw [e _ (by omega)])
  · obtain ⟨a1, a2⟩ := h3 f hf
    refine ⟨by rw [e 2 (by omega), e _ (by omega), e 1 (by omega)]; exact a1, fun d hd => ?_⟩
    rw [e _ (by omega), e _ (by omega), e 2 (by omega), e 0 (by omega)]
    exact a2 d hd
  · obtain ⟨a1, a2, a3, a4, a5⟩ := h4 k hk
    refine ⟨fun hk3 => ?_, fun d hd => ?_, by rw [e _ (by omega), e _ (by omega)]; exact a3, by rw [eK, e _ (by omega)]; exact a4, ?_⟩
    · rw [e 3 (by omega)] at hk3
      obtain ⟨b1, b2, b3, b4⟩ := a1 hk3
      rw [e (579 + 44 * k) (by omega), e (579 + 44 * k + 1) (by omega), eK, e 2 (by omega), e 1 (by omega), e (409 + 17 * G (579 + 44 * k)) (by omega), e (373 + 6 * G (579 + 44 * k + 1) + 3) (by omega)]
      exact ⟨b1, b2, b3, b4⟩
    · rw [e _ (by omega), e 0 (by omega)]
      exact a2 d hd
    · rw [e 3 (by omega), e _ (by omega), e _ (by omega)]
      rcases a5 with a5 | ⟨a5, a6⟩
      · exact Or.inl a5
      · exact Or.inr ⟨fun d hd => by rw [e _ (by omega)]; exact a5 d hd, a6⟩
