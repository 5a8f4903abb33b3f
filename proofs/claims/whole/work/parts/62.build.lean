/-! a desk put together from its pieces -/
def GR (r : Nat → Int32) (i : Nat) : Nat := (r i).toBitVec.toNat
theorem nI_GR (r : Nat → Int32) (i : Nat) : nI (GR r i) = r i := by
  refine Int32.toBitVec_inj.mp (BitVec.eq_of_toNat_eq ?_)
  show (BitVec.ofNat 32 (r i).toBitVec.toNat).toNat = _
  rw [BitVec.toNat_ofNat]
  exact Nat.mod_eq_of_lt (r i).toBitVec.isLt
theorem GR_nI {r : Nat → Int32} {i n : Nat} (h : r i = nI n) (hn : n < 4294967296) : GR r i = n := by
  unfold GR
  rw [h]
  exact pk_tn hn
def LG (G : Nat → Nat) (c : Nat) : List LT := (List.range (G (5 + 46 * c + 3))).map (fun j => (G (5 + 46 * c + 7 + j), G (5 + 46 * c + 19 + j), G (5 + 46 * c + 31 + j)))
theorem LG_len (G : Nat → Nat) (c : Nat) : (LG G c).length = G (5 + 46 * c + 3) := by
  unfold LG
  rw [List.length_map, List.length_range]
theorem LG_get {G : Nat → Nat} {c j : Nat} {x : LT} (h : (LG G c)[j]? = some x) : j < G (5 + 46 * c + 3) ∧ x = (G (5 + 46 * c + 7 + j), G (5 + 46 * c + 19 + j), G (5 + 46 * c + 31 + j)) := by
  have hj : j < (LG G c).length := by
    rcases Nat.lt_or_ge j (LG G c).length with q | q
    · exact q
    · rw [List.getElem?_eq_none q] at h; cases h
  rw [LG_len] at hj
  refine ⟨hj, ?_⟩
  unfold LG at h
  rw [List.getElem?_map, List.getElem?_range hj] at h
  exact (Option.some.inj h).symm
theorem LG_ok {G : Nat → Nat} {c : Nat} (h : GIc G c) : okL (LG G c) := by
  refine ⟨by rw [LG_len]; exact h.1, fun x hx => ?_⟩
  obtain ⟨j, hj⟩ := List.mem_iff_getElem?.mp hx
  obtain ⟨h1, rfl⟩ := LG_get hj
  exact h.2.2.2 j h1
def CE (M : xM) (r : Nat → Int32) (c : Nat) (l : List LT) : Prop := CM M (5 + 5 * c) l ∧ CR r (5 + 46 * c) l ∧ (∀ a, a < 3 → M.1 (6 + 5 * c) a = r (5 + 46 * c + a)) ∧ M.1 (5 + 5 * c) 2 = r (5 + 46 * c + 4) ∧ M.1 (5 + 5 * c) 3 = r (5 + 46 * c + 5) ∧ M.1 (5 + 5 * c) 4 = r (5 + 46 * c + 6) ∧ M.1 (5 + 5 * c) 5 = r (5 + 46 * c + 43) ∧ M.1 (5 + 5 * c) 1 = r (5 + 46 * c + 44)
theorem DS.ce {M : xM} {r : Nat → Int32} {G : Nat → Nat} {B : Nat → Nat → Nat → Bool} {c : Nat} (h : DS M 0 r G B) (hc : c < 8) : CE M r c (LG G c) := by
  have hl := loc_c c hc
  have hn := (h.2.2.2.2.2.1 c hc).1
  have hr := h.2.2.1
  refine ⟨⟨?_, fun j x hx => ?_⟩, ⟨?_, fun j x hx => ?_⟩, fun a ha => ?_, ?_, ?_, ?_, ?_, ?_⟩
  · rw [LG_len]
    exact h.m hl.2.1 (vis_c hc (by omega) (by omega)) (by omega)
  · obtain ⟨hj, rfl⟩ := LG_get hx
    have ll := loc_l c hc j (by omega)
    exact ⟨h.m ll.1 (vis_l hc (by omega) (by omega) hj) (by omega), h.m ll.2.1 (vis_l hc (by omega) (by omega) hj) (by omega), h.m ll.2.2 (vis_l hc (by omega) (by omega) hj) (by omega)⟩
  · rw [LG_len]
    exact hr _ (by omega)
  · obtain ⟨hj, rfl⟩ := LG_get hx
    exact ⟨hr _ (by omega), hr _ (by omega), hr _ (by omega)⟩
  · rw [hr _ (by omega)]
    exact h.m (hl.1 a ha) (vis_c hc (by omega) (by omega)) (by omega)
  · rw [hr _ (by omega)]
    exact h.m hl.2.2.1 (vis_c hc (by omega) (by omega)) (by omega)
  · rw [hr _ (by omega)]
    exact h.m hl.2.2.2.1 (vis_c hc (by omega) (by omega)) (by omega)
  · rw [hr _ (by omega)]
    exact h.m hl.2.2.2.2.1 (vis_c hc (by omega) (by omega)) (by omega)
  · rw [hr _ (by omega)]
    exact h.m hl.2.2.2.2.2.1 (vis_c hc (by omega) (by omega)) (by omega)
  · rw [hr _ (by omega)]
    exact h.m hl.2.2.2.2.2.2 (vis_c hc (by omega) (by omega)) (by omega)
/-- the places of a canister's entries; of what stands behind the canisters -/
theorem loc_ge : ∀ i, i < 1460 → 373 ≤ i → isP i = true → 45 ≤ (loc i).1 := by decide +kernel
theorem get_lt {l : List LT} {j : Nat} (h : j < l.length) : ∃ x, l[j]? = some x := ⟨l[j], List.getElem?_eq_getElem h⟩
theorem DS.build {M : xM} {r : Nat → Int32} {G : Nat → Nat} {B : Nat → Nat → Nat → Bool} (hr : ∀ i, i < 1460 → r i = nI (G i)) (hg : GI G B) (hB : BR M 0 B) (hG : BG r B) (h0 : ∀ s, s < 5 → M.1 0 (4 + s) = r s) (hc : ∀ c, c < 8 → ∃ l, CE M r c l ∧ G (5 + 46 * c + 3) = l.length) (hrest : ∀ i, 373 ≤ i → isP i = true → M.1 (loc i).1 (loc i).2 = r i) : DS M 0 r G B := by
  refine ⟨fun i hi hv => ?_, hB, hr, hG, hg⟩
  rw [← hr i (isP_lt hi), Nat.zero_add]
  by_cases h5 : i < 5
  · rw [(loc_n i h5).1]
    exact h0 i h5
  · by_cases h3 : i < 373
    · obtain ⟨c, t, hc8, ht, rfl⟩ : ∃ c t, c < 8 ∧ t < 46 ∧ i = 5 + 46 * c + t := ⟨(i - 5) / 46, (i - 5) % 46, by omega, Nat.mod_lt _ (by decide), by omega⟩
      obtain ⟨l, ⟨⟨c1, c2⟩, ⟨d1, d2⟩, d3, d4, d5, d6, d7, d8⟩, hl⟩ := hc c hc8
      have lc := loc_c c hc8
      by_cases t3 : t < 3
      · rw [(lc.1 t t3).1]
        exact d3 t t3
      by_cases t7 : t < 7
      · have : t = 3 ∨ t = 4 ∨ t = 5 ∨ t = 6 := by omega
        rcases this with rfl | rfl | rfl | rfl
        · rw [lc.2.1.1]
          exact c1.trans d1.symm
        · rw [lc.2.2.1.1]
          exact d4
        · rw [lc.2.2.2.1.1]
          exact d5
        · rw [lc.2.2.2.2.1.1]
          exact d6
      by_cases t43 : t < 43
      · have hv1 := hv (by omega) h3 (by omega) (by omega)
        rw [show (5 + 46 * c + t - 5) / 46 = c by omega, show (5 + 46 * c + t - 5) % 46 = t by omega, hl] at hv1
        obtain ⟨x, hx⟩ := get_lt hv1
        have hj : (t - 7) % 12 < 12 := Nat.mod_lt _ (by decide)
        have ll := loc_l c hc8 ((t - 7) % 12) hj
        obtain ⟨p1, p2, p3⟩ := c2 _ x hx
        obtain ⟨q1, q2, q3⟩ := d2 _ x hx
        have : t = 7 + (t - 7) % 12 ∨ t = 19 + (t - 7) % 12 ∨ t = 31 + (t - 7) % 12 := by omega
        rcases this with e | e | e
        · rw [show 5 + 46 * c + t = 5 + 46 * c + 7 + (t - 7) % 12 by omega, ll.1.1]
          rw [show 5 + 5 * c + 2 = 7 + 5 * c by omega] at p1
          exact p1.trans q1.symm
        · rw [show 5 + 46 * c + t = 5 + 46 * c + 19 + (t - 7) % 12 by omega, ll.2.1.1]
          rw [show 5 + 5 * c + 3 = 8 + 5 * c by omega] at p2
          exact p2.trans q2.symm
        · rw [show 5 + 46 * c + t = 5 + 46 * c + 31 + (t - 7) % 12 by omega, ll.2.2.1]
          rw [show 5 + 5 * c + 4 = 9 + 5 * c by omega] at p3
          exact p3.trans q3.symm
      · have : t = 43 ∨ t = 44 ∨ t = 45 := by omega
        rcases this with rfl | rfl | rfl
        · rw [lc.2.2.2.2.2.1.1]
          exact d7
        · rw [lc.2.2.2.2.2.2.1]
          exact d8
        · exfalso
          unfold isP at hi
          rw [if_neg (by omega), if_pos (by omega), show (5 + 46 * c + 45 - 5) % 46 = 45 by omega] at hi
          exact absurd hi (by decide)
    · exact hrest i (by omega) hi
/-- canisters change, and the day -/
theorem GI.cans {G G1 : Nat → Nat} {B : Nat → Nat → Nat → Bool} (h : GI G B) (e : ∀ j, (j < 4 ∨ 373 ≤ j) → G1 j = G j) (h4 : G1 4 ≤ 400) (h9 : ∀ c, c < 8 → GIc G1 c) : GI G1 B := by
  obtain ⟨⟨z0, z1, z2, z3, z4⟩, h1, hb2, h3, hk4⟩ := h
  have eK : ∀ k, allK G1 k = allK G k := fun k => sumN_cong (fun c hc => e _ (by omega))
  refine ⟨⟨by rw [e 0 (by omega)]; exact z0, by rw [e 1 (by omega)]; exact z1, by rw [e 2 (by omega)]; exact z2, by rw [e 3 (by omega)]; exact z3, h4⟩, h9, fun b hb => ?_, fun f hf => ?_, fun k hk => ?_⟩
  · obtain ⟨a1, a2, a3, a4⟩ := hb2 b hb
    refine ⟨fun r hr => by rw [e _ (by omega)]; exact a1 r hr, by rw [e _ (by omega)]; exact a2, by rw [e _ (by omega)]; exact a3, ?_⟩
    rw [e 3 (by omega), e _ (by omega), a4]
    exact cntN_cong (fun k hk => by rw [e _ (by omega)])
  · obtain ⟨a1, a2⟩ := h3 f hf
    refine ⟨by rw [e 2 (by omega), e _ (by omega), e 1 (by omega)]; exact a1, fun d hd => ?_⟩
    rw [e _ (by omega), e _ (by omega), e 2 (by omega), e 0 (by omega)]
    exact a2 d hd
  · obtain ⟨a1, a2, a3, a4, a5⟩ := hk4 k hk
    refine ⟨fun hk3 => ?_, fun d hd => ?_, by rw [e _ (by omega), e _ (by omega)]; exact a3, by rw [eK, e _ (by omega)]; exact a4, ?_⟩
    · rw [e 3 (by omega)] at hk3
      obtain ⟨b1, b2, b3, b4⟩ := a1 hk3
      rw [e (579 + 44 * k) (by omega), e (579 + 44 * k + 1) (by omega), eK, e 2 (by omega), e 1 (by omega), e (409 + 17 * G (579 + 44 * k)) (by omega), e (373 + 6 * G (579 + 44 * k + 1) + 3) (by omega)]
      exact ⟨b1, b2, b3, b4⟩
    · rw [e _ (by omega), e 0 (by omega)]
      exact a2 d hd
    · rw [e 3 (by omega), e _ (by omega), e _ (by omega)]
      rcases a5 with a5 | ⟨a5, a6⟩
      · exact Or.inl a5
      · exact Or.inr ⟨fun d hd => by rw [e _ (by omega)]; exact a5 d hd, a6⟩
theorem GIc_of {G : Nat → Nat} {r : Nat → Int32} {c : Nat} {l : List LT} (hc : c < 8) (e : ∀ t, t < 46 → G (5 + 46 * c + t) = GR r (5 + 46 * c + t)) (h : CR r (5 + 46 * c) l) (ho : okL l) (hv : ∀ a, a < 3 → ∃ v, v ≤ 9 ∧ r (5 + 46 * c + a) = nI v) (hw : ∃ w, w ≤ 99 ∧ r (5 + 46 * c + 44) = nI w) : GIc G c ∧ G (5 + 46 * c + 3) = l.length := by
  have h3 : G (5 + 46 * c + 3) = l.length := (e 3 (by omega)).trans (GR_nI h.1 (by have := ho.1; omega))
  refine ⟨⟨by rw [h3]; exact ho.1, fun a ha => ?_, ?_, fun j hj => ?_⟩, h3⟩
  · obtain ⟨v, v1, v2⟩ := hv a ha
    rw [e a (by omega), GR_nI v2 (by omega)]
    exact v1
  · obtain ⟨v, v1, v2⟩ := hw
    rw [e 44 (by omega), GR_nI v2 (by omega)]
    exact v1
  · rw [h3] at hj
    have hj12 : j < 12 := by have := ho.1; omega
    obtain ⟨x, hx⟩ := get_lt hj
    obtain ⟨b1, b2, b3, b4⟩ := ho.2 x (List.mem_of_getElem? hx)
    obtain ⟨g1, g2, g3⟩ := h.2 j x hx
    rw [show 5 + 46 * c + 7 + j = 5 + 46 * c + (7 + j) by omega, show 5 + 46 * c + 19 + j = 5 + 46 * c + (19 + j) by omega, show 5 + 46 * c + 31 + j = 5 + 46 * c + (31 + j) by omega, e _ (by omega), e _ (by omega), e _ (by omega), GR_nI (n := x.1) (by rw [show 5 + 46 * c + (7 + j) = 5 + 46 * c + 7 + j by omega]; exact g1) (by omega), GR_nI (n := x.2.1) (by rw [show 5 + 46 * c + (19 + j) = 5 + 46 * c + 19 + j by omega]; exact g2) (by omega), GR_nI (n := x.2.2) (by rw [show 5 + 46 * c + (31 + j) = 5 + 46 * c + 31 + j by omega]; exact g3) (by omega)]
    exact ⟨b1, b2, b3, b4⟩
theorem DS.cans {M M1 : xM} {r r1 : Nat → Int32} {G : Nat → Nat} {B : Nat → Nat → Nat → Bool} {d : Nat} (h : DS M 0 r G B) (m0 : ∀ s, 4 ≤ s → s < 8 → M1.1 0 s = M.1 0 s) (hd : d ≤ 400) (m8 : M1.1 0 8 = nI d) (r4 : r1 4 = nI d) (rr : ∀ j, j < 4 ∨ 373 ≤ j → j < 1460 → r1 j = r j) (mm : ∀ k, 45 ≤ k → k < 147 → M1.1 k = M.1 k) (m2 : ∀ k, k < 147 → M1.2 k = M.2 k) (ce : ∀ c, c < 8 → ∃ l, CE M1 r1 c l ∧ okL l ∧ (∀ a, a < 3 → r1 (5 + 46 * c + a) = r (5 + 46 * c + a)) ∧ ∃ w, w ≤ 99 ∧ r1 (5 + 46 * c + 44) = nI w) : ∃ G1, DS M1 0 r1 G1 B := by
  have hr := h.2.2.1
  have hg := h.2.2.2.2
  obtain ⟨G1, hG1⟩ : ∃ G1 : Nat → Nat, G1 = fun j => if 5 ≤ j ∧ j < 373 then GR r1 j else if j = 4 then d else G j := ⟨_, rfl⟩
  have e1 : ∀ j, (j < 4 ∨ 373 ≤ j) → G1 j = G j := fun j hj => by rw [hG1]; dsimp only; rw [if_neg (by omega), if_neg (by omega)]
  have e2 : G1 4 = d := by rw [hG1]; rfl
  have e3 : ∀ j, 5 ≤ j → j < 373 → G1 j = GR r1 j := fun j q1 q2 => by rw [hG1]; exact if_pos ⟨q1, q2⟩
  have gc : ∀ c, c < 8 → ∃ l, CE M1 r1 c l ∧ GIc G1 c ∧ G1 (5 + 46 * c + 3) = l.length := fun c hc => by
    obtain ⟨l, k1, k2, k3, k4⟩ := ce c hc
    have k5 := GIc_of (G := G1) hc (fun t ht => e3 _ (by omega) (by omega)) k1.2.1 k2 (fun a ha => ⟨G (5 + 46 * c + a), (hg.2.1 c hc).2.1 a ha, by rw [k3 a ha]; exact hr _ (by omega)⟩) k4
    exact ⟨l, k1, k5.1, k5.2⟩
  refine ⟨G1, DS.build (fun i hi => ?_) (hg.cans e1 (by rw [e2]; exact hd) (fun c hc => by obtain ⟨l, k1, k2, k3⟩ := gc c hc; exact k2)) (h.2.1.cong (fun k hk => by rw [Nat.zero_add]; exact m2 k hk)) (fun k c q hk hc hq => by rw [rr _ (by omega) (by omega)]; exact h.2.2.2.1 k c q hk hc hq) (fun s hs => ?_) (fun c hc => by obtain ⟨l, k1, k2, k3⟩ := gc c hc; exact ⟨l, k1, k3⟩) (fun i hi hp => ?_)⟩
  · by_cases i5 : 5 ≤ i ∧ i < 373
    · rw [e3 i i5.1 i5.2, nI_GR]
    · by_cases i4 : i = 4
      · subst i4
        rw [e2, r4]
      · rw [e1 i (by omega), rr i (by omega) hi]
        exact hr i hi
  · by_cases s4 : s = 4
    · subst s4
      rw [r4]
      exact m8
    · rw [m0 _ (by omega) (by omega), rr s (by omega) (by omega), hr s (by omega)]
      exact h.m (loc_n s hs) (vis_lo (by omega)) rfl
  · have q := loc_ge i (isP_lt hp) hi hp
    rw [mm _ q (loc_lt i (isP_lt hp) hp), rr i (Or.inr hi) (isP_lt hp), hr i (isP_lt hp)]
    exact h.m ⟨rfl, hp⟩ (vis_hi hi) (Nat.zero_add _).symm
/-- sums of lots -/
theorem CM.sum {N p : Nat} {M : xM} {l : List LT} (h : CM M p l) (hN : 30 ≤ N) (hl : l.length ≤ 12) : F_X2_stepsInside N p M = some (M, nI (sumL l)) := by
  have loop : ∀ n (a b : List LT), l = a ++ b → b.length < n → L_X2_stepsInside_4 N p n (nI (sumL a)) (nI a.length) M = some (M, nI (sumL l)) := by
    intro n
    induction n with
    | zero => intro a b e q; omega
    | succ n ih =>
      intro a b e q
      rw [L_X2_stepsInside_4, h.1]
      cases b with
      | nil =>
        rw [List.append_nil] at e
        rw [if_pos (nI_le (by rw [e]; exact Nat.le_refl _) (by rw [← e]; omega)), e]
      | cons x b =>
        have hlen : l.length = a.length + (b.length + 1) := by rw [e, List.length_append]; rfl
        have hx := h.2 a.length x (by rw [e]; exact get_mid)
        rw [if_neg (nI_ge (by omega) (by omega)), ck_nI (by omega) (by decide), nI_clamp (by omega), hx.2.1, nI_add, xl_v, nI_1, xl_v]
        have := ih (a ++ [x]) b (by rw [e, List.append_assoc]; rfl) (by have : (x :: b).length = b.length + 1 := rfl; omega)
        rw [sumL_app, List.length_append] at this
        exact this
  exact loop N [] l rfl (by omega)
theorem CR.sum {N c : Nat} {R : xM} {l : List LT} (h : CR (R.1 1) (5 + 46 * c) l) (hc : c < 8) (hN : 30 ≤ N) (hl : l.length ≤ 12) : F_X10_inCanister N (nI c) R = some (R, nI (sumL l)) := by
  have loop : ∀ n (a b : List LT), l = a ++ b → b.length < n → L_X10_inCanister_4 N n (nI c) (nI (sumL a)) (nI a.length) R = some (R, nI (sumL l)) := by
    intro n
    induction n with
    | zero => intro a b e q; omega
    | succ n ih =>
      intro a b e q
      rw [L_X10_inCanister_4, show F_X10_colorantAt N (nI c) 3 R = _ from rdCx (k := 3) hc (by omega), xbd_some]
      dsimp only
      rw [h.1]
      cases b with
      | nil =>
        rw [List.append_nil] at e
        rw [if_pos (nI_le (by rw [e]; exact Nat.le_refl _) (by rw [← e]; omega)), e]
      | cons x b =>
        have hlen : l.length = a.length + (b.length + 1) := by rw [e, List.length_append]; rfl
        have hx := CR.rd (N := N) (j := a.length) (x := x) h hc (by omega) (by rw [e]; exact get_mid)
        rw [if_neg (nI_ge (by omega) (by omega)), hx.2.1, xbd_some, nI_add, xl_v, nI_1, xl_v]
        have := ih (a ++ [x]) b (by rw [e, List.append_assoc]; rfl) (by have : (x :: b).length = b.length + 1 := rfl; omega)
        rw [sumL_app, List.length_append] at this
        exact this
  exact loop N [] l rfl (by omega)
