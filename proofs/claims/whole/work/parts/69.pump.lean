/-! steps are pumped -/
def pumpL : List LT → Nat → List LT
  | [], _ => []
  | x :: l, s => if s = 0 then x :: l else if x.2.1 ≤ s then pumpL l (s - x.2.1) else (x.1, x.2.1 - s, x.2.2) :: l
def pumpN : List LT → Nat → Nat → Bool
  | [], _, _ => false
  | x :: l, s, q => if s = 0 then false else (decide (q = x.1) || (if x.2.1 ≤ s then pumpN l (s - x.2.1) q else false))
theorem pumpL_0 (l : List LT) : pumpL l 0 = l := by
  cases l with
  | nil => rfl
  | cons x l => exact if_pos rfl
theorem pumpN_0 (l : List LT) (q : Nat) : pumpN l 0 q = false := by
  cases l with
  | nil => rfl
  | cons x l => exact if_pos rfl
theorem pumpL_le {x : LT} {l : List LT} {s : Nat} (h0 : ¬ s = 0) (h : x.2.1 ≤ s) : pumpL (x :: l) s = pumpL l (s - x.2.1) := (if_neg h0).trans (if_pos h)
theorem pumpL_gt {x : LT} {l : List LT} {s : Nat} (h0 : ¬ s = 0) (h : ¬ x.2.1 ≤ s) : pumpL (x :: l) s = (x.1, x.2.1 - s, x.2.2) :: l := (if_neg h0).trans (if_neg h)
theorem pumpN_le {x : LT} {l : List LT} {s q : Nat} (h0 : ¬ s = 0) (h : x.2.1 ≤ s) : pumpN (x :: l) s q = (decide (q = x.1) || pumpN l (s - x.2.1) q) := by
  show (if s = 0 then false else (decide (q = x.1) || (if x.2.1 ≤ s then pumpN l (s - x.2.1) q else false))) = _
  rw [if_neg h0, if_pos h]
theorem pumpN_gt {x : LT} {l : List LT} {s q : Nat} (h0 : ¬ s = 0) (h : ¬ x.2.1 ≤ s) : pumpN (x :: l) s q = decide (q = x.1) := by
  show (if s = 0 then false else (decide (q = x.1) || (if x.2.1 ≤ s then pumpN l (s - x.2.1) q else false))) = _
  rw [if_neg h0, if_neg h, Bool.or_false]
theorem okL.tail {x : LT} {l : List LT} (h : okL (x :: l)) : okL l := ⟨by have := h.1; rw [List.length_cons] at this; omega, fun y hy => h.2 y (List.mem_cons_of_mem _ hy)⟩
theorem pumpL_ok : ∀ {l : List LT} {s : Nat}, okL l → okL (pumpL l s) ∧ (pumpL l s).length ≤ l.length
  | [], _, h => ⟨h, Nat.le_refl _⟩
  | x :: l, s, h => by
    by_cases h0 : s = 0
    · subst h0
      rw [pumpL_0]
      exact ⟨h, Nat.le_refl _⟩
    · by_cases h1 : x.2.1 ≤ s
      · rw [pumpL_le h0 h1]
        have := pumpL_ok (l := l) (s := s - x.2.1) h.tail
        exact ⟨this.1, Nat.le_succ_of_le this.2⟩
      · rw [pumpL_gt h0 h1]
        obtain ⟨b1, b2, b3, b4⟩ := h.2 x (List.mem_cons_self ..)
        refine ⟨⟨h.1, fun y hy => ?_⟩, Nat.le_refl _⟩
        rcases List.mem_cons.mp hy with rfl | hy
        · exact ⟨b1, by show 1 ≤ x.2.1 - s; omega, by show x.2.1 - s ≤ 500; omega, b4⟩
        · exact h.2 y (List.mem_cons_of_mem _ hy)
theorem pumpL_sum : ∀ {l : List LT} {s : Nat}, s ≤ sumL l → sumL (pumpL l s) + s = sumL l
  | [], s, h => by
    have : s = 0 := Nat.le_zero.mp h
    subst this
    rfl
  | x :: l, s, h => by
    have e : sumL (x :: l) = x.2.1 + sumL l := rfl
    by_cases h0 : s = 0
    · subst h0
      rw [pumpL_0]
      rfl
    · by_cases h1 : x.2.1 ≤ s
      · rw [pumpL_le h0 h1]
        have := pumpL_sum (l := l) (s := s - x.2.1) (by omega)
        omega
      · rw [pumpL_gt h0 h1]
        show x.2.1 - s + sumL l + s = x.2.1 + sumL l
        omega
theorem cntN_or {f g : Nat → Bool} : ∀ n, cntN (fun q => f q || g q) n ≤ cntN f n + cntN g n
  | 0 => Nat.le_refl _
  | n + 1 => by
    have := cntN_or (f := f) (g := g) n
    show cntN (fun q => f q || g q) n + (if (f n || g n) = true then 1 else 0) ≤ cntN f n + (if f n = true then 1 else 0) + (cntN g n + (if g n = true then 1 else 0))
    cases f n <;> cases g n <;> simp <;> omega
theorem cntN_one {a : Nat} : ∀ n, cntN (fun q => decide (q = a)) n ≤ if a < n then 1 else 0
  | 0 => Nat.zero_le _
  | n + 1 => by
    have := cntN_one (a := a) n
    show cntN (fun q => decide (q = a)) n + (if decide (n = a) = true then 1 else 0) ≤ if a < n + 1 then 1 else 0
    by_cases h : n = a
    · subst h
      rw [if_neg (Nat.lt_irrefl _)] at this
      rw [if_pos (decide_eq_true rfl), if_pos (Nat.lt_succ_self _)]
      omega
    · rw [if_neg (by rw [decide_eq_true_iff]; exact h)]
      by_cases h2 : a < n
      · rw [if_pos h2] at this
        rw [if_pos (by omega)]
        exact this
      · rw [if_neg h2] at this
        rw [if_neg (by omega)]
        exact this
theorem pumpN_cnt : ∀ {l : List LT} {s : Nat}, okL l → cntN (pumpN l s) 100 ≤ s
  | [], s, _ => by
    show cntN (fun _ => false) 100 ≤ s
    rw [cntN_0]
    exact Nat.zero_le _
  | x :: l, s, h => by
    obtain ⟨b1, b2, b3, b4⟩ := h.2 x (List.mem_cons_self ..)
    by_cases h0 : s = 0
    · subst h0
      rw [show cntN (pumpN (x :: l) 0) 100 = cntN (fun _ => false) 100 from cntN_cong (fun q _ => pumpN_0 _ q), cntN_0]
      exact Nat.le_refl _
    · have o1 := cntN_one (a := x.1) 100
      have o2 : (if x.1 < 100 then 1 else 0) = 1 := if_pos (by omega)
      by_cases h1 : x.2.1 ≤ s
      · rw [show cntN (pumpN (x :: l) s) 100 = cntN (fun q => decide (q = x.1) || pumpN l (s - x.2.1) q) 100 from cntN_cong (fun q _ => pumpN_le h0 h1)]
        have c1 := cntN_or (f := fun q => decide (q = x.1)) (g := pumpN l (s - x.2.1)) 100
        have c2 := pumpN_cnt (l := l) (s := s - x.2.1) h.tail
        omega
      · rw [show cntN (pumpN (x :: l) s) 100 = cntN (fun q => decide (q = x.1)) 100 from cntN_cong (fun q _ => pumpN_gt h0 h1)]
        omega
/-- the class -/
theorem note_ok {N p c q : Nat} {M : xM} (hc : c < 8) (hq : q < 100) : ∃ M1, F_X1_noteLot N p (nI c) (nI q) M = some (M1, 0) ∧ M1.1 = M.1 ∧ (∀ k, k ≠ p + 2 → M1.2 k = M.2 k) ∧ ∀ d t, d < 8 → t < 100 → bitsM M1 p d t = (bitsM M p d t || (decide (d = c) && decide (t = q))) := by
  unfold F_X1_noteLot
  rw [(i_64 hq).2, (i_64 hq).1, show nI c * 2 + nI (q / 64) = nI (2 * c + q / 64) from by show nI c * nI 2 + nI (q / 64) = _; rw [pk_mul, nI_add, Nat.mul_comm], ck_nI (by omega) (by decide), ck_nI (by omega) (by decide), nI_clamp (by omega), xl_v]
  refine ⟨_, rfl, rfl, fun k hk => if_neg hk, fun d t hd ht => ?_⟩
  unfold bitsM
  rw [show (xSL M (p + 2) (vp_updL (M.2 (p + 2)) (2 * c + q / 64) (M.2 (p + 2) (2 * c + q / 64) ||| (1 : Int64) <<< ((nI (q % 64)).toInt64 &&& 63)))).2 (p + 2) = vp_updL (M.2 (p + 2)) (2 * c + q / 64) (M.2 (p + 2) (2 * c + q / 64) ||| (1 : Int64) <<< ((nI (q % 64)).toInt64 &&& 63)) from if_pos rfl]
  by_cases e : 2 * d + t / 64 = 2 * c + q / 64
  · rw [e, pk_uLs, bM_or, one64 _ (Nat.mod_lt _ (by decide)) _ (Nat.mod_lt _ (by decide))]
    have hdc : d = c := by omega
    rw [decide_eq_true hdc, Bool.true_and]
    congr 1
    by_cases e2 : t = q
    · rw [decide_eq_true e2, decide_eq_true (by rw [e2])]
    · rw [decide_eq_false e2, decide_eq_false (by omega)]
  · rw [pk_uLn e]
    by_cases hdc : d = c
    · rw [decide_eq_false (show ¬ t = q by intro h; subst h; exact e (by omega)), Bool.and_false, Bool.or_false]
    · rw [decide_eq_false hdc, Bool.false_and, Bool.or_false]
theorem CM.first {M : xM} {p : Nat} {x : LT} {l : List LT} (h : CM M p (x :: l)) (s : Nat) {M1 : xM} (hM : M1 = xS M (p + 3) (upd (M.1 (p + 3)) 0 (nI s))) : CM M1 p ((x.1, s, x.2.2) :: l) := by
  refine ⟨by rw [hM, xS_ne (by omega)]; exact h.1, fun j y hy => ?_⟩
  have f2 : M1.1 (p + 2) = M.1 (p + 2) := by rw [hM, xS_ne (by omega)]
  have f4 : M1.1 (p + 4) = M.1 (p + 4) := by rw [hM, xS_ne (by omega)]
  have f3 : M1.1 (p + 3) = upd (M.1 (p + 3)) 0 (nI s) := by rw [hM, xS_at]
  rw [f2, f3, f4]
  cases j with
  | zero =>
    have hy : some (x.1, s, x.2.2) = some y := hy
    obtain rfl := Option.some.inj hy
    have := h.2 0 x rfl
    exact ⟨this.1, pk_us, this.2.2⟩
  | succ j =>
    rw [pk_un (by omega)]
    exact h.2 (j + 1) y hy
theorem CR.first {r : Nat → Int32} {o : Nat} {x : LT} {l : List LT} (h : CR r o (x :: l)) (hl : l.length ≤ 11) (s : Nat) : CR (upd r (o + 19) (nI s)) o ((x.1, s, x.2.2) :: l) := by
  refine ⟨by rw [pk_un (by omega)]; exact h.1, fun j y hy => ?_⟩
  have hj := len_some hy
  rw [List.length_cons] at hj
  dsimp only
  cases j with
  | zero =>
    have hy : some (x.1, s, x.2.2) = some y := hy
    obtain rfl := Option.some.inj hy
    have := h.2 0 x rfl
    exact ⟨(pk_un (by omega)).trans this.1, pk_us, (pk_un (by omega)).trans this.2.2⟩
  | succ j =>
    rw [pk_un (by omega), pk_un (by omega), pk_un (by omega)]
    exact h.2 (j + 1) y hy
theorem pumpM {N p k1 c : Nat} {v3 : Int32} (hN : 40 ≤ N) (hc : c < 8) : ∀ n (l : List LT) (s : Nat) (M : xM), l.length + 1 < n → CM M p l → okL l → s ≤ sumL l → ∃ M1, L_X2_pumpInto_9 N p k1 n (nI c) v3 (nI s) (nI l.length) M = L_X2_pumpInto_81 N p k1 (nI c) v3 M1 ∧ CM M1 p (pumpL l s) ∧ (∀ k, k ≠ p → k ≠ p + 2 → k ≠ p + 3 → k ≠ p + 4 → M1.1 k = M.1 k) ∧ (∀ t, t ≠ 6 → M1.1 p t = M.1 p t) ∧ (∀ k, k ≠ k1 + 2 → M1.2 k = M.2 k) ∧ ∀ d q, d < 8 → q < 100 → bitsM M1 k1 d q = (bitsM M k1 d q || (decide (d = c) && pumpN l s q)) := by
  intro n
  induction n with
  | zero => intro l s M h1; omega
  | succ n ih =>
    intro l s M h1 h2 h3 h4
    have stop : ∀ (m : Nat) (v5 : Int32) (M : xM), 0 < m → L_X2_pumpInto_9 N p k1 m (nI c) v3 (nI 0) v5 M = L_X2_pumpInto_81 N p k1 (nI c) v3 M := fun m v5 M hm => by
      obtain ⟨m, rfl⟩ : ∃ m', m = m' + 1 := ⟨m - 1, by omega⟩
      rw [L_X2_pumpInto_9, if_pos (show nI 0 ≤ (0 : Int32) from by decide)]
      split <;> rfl
    by_cases h0 : s = 0
    · subst h0
      refine ⟨M, stop _ _ _ (by omega), by rw [pumpL_0]; exact h2, fun _ _ _ _ _ => rfl, fun _ _ => rfl, fun _ _ => rfl, fun d q _ _ => ?_⟩
      rw [pumpN_0, Bool.and_false, Bool.or_false]
    · cases l with
      | nil => exact absurd (Nat.le_zero.mp h4) h0
      | cons x l =>
        have e : sumL (x :: l) = x.2.1 + sumL l := rfl
        obtain ⟨b1, b2, b3, b4⟩ := h3.2 x (List.mem_cons_self ..)
        have hl12 := h3.1
        rw [List.length_cons] at h1 hl12
        have hx := h2.2 0 x rfl
        have hs : s < 2 ^ 31 := by
          have : sumL (x :: l) ≤ 6000 := by
            have gen : ∀ l : List LT, okL l → sumL l ≤ 500 * l.length := by
              intro l
              induction l with
              | nil => intro _; exact Nat.le_refl _
              | cons y l ih2 =>
                intro hk
                have q1 := ih2 hk.tail
                have q2 := (hk.2 y (List.mem_cons_self ..)).2.2.1
                show y.2.1 + sumL l ≤ 500 * (l.length + 1)
                omega
            have := gen _ h3
            rw [List.length_cons] at this
            omega
          omega
        rw [L_X2_pumpInto_9, List.length_cons, if_neg (nI_nle (by omega) (by omega)), if_neg (nI_nle (by omega) (by omega)), show M.1 (p + 3) (0 : Int32).toNatClampNeg = nI x.2.1 from hx.2.1, show M.1 (p + 2) (0 : Int32).toNatClampNeg = nI x.1 from hx.1]
        obtain ⟨M1, n1, n2, n3, n4⟩ := note_ok (N := N) (p := k1) (c := c) (q := x.1) (M := M) hc (by omega)
        by_cases hle : x.2.1 ≤ s
        · have y3 : (if nI x.2.1 < nI s then nI x.2.1 else nI s) = nI x.2.1 := by
            by_cases q : x.2.1 < s
            · rw [if_pos (nI_lt q (by omega))]
            · rw [if_neg (nI_nlt (by omega) (by omega)), show s = x.2.1 by omega]
          rw [y3, xl_v, n1, xbd_some]
          dsimp only
          rw [n2]
          obtain ⟨M2, hM2⟩ : ∃ M2, M2 = xS M1 (p + 3) (upd (M.1 (p + 3)) 0 (nI 0)) := ⟨_, rfl⟩
          rw [show xS M1 (p + 3) (upd (M.1 (p + 3)) (0 : Int32).toNatClampNeg (M.1 (p + 3) (0 : Int32).toNatClampNeg - nI x.2.1)) = M2 from by rw [hM2, show M.1 (p + 3) (0 : Int32).toNatClampNeg = nI x.2.1 from hx.2.1, pk_sub (Nat.le_refl _), Nat.sub_self]; rfl, xl_v, pk_sub hle, xl_v, if_pos (show M2.1 (p + 3) (0 : Int32).toNatClampNeg = 0 from by rw [hM2, xS_at]; exact pk_us)]
          have h2' : CM M1 p (x :: l) := by unfold CM; rw [n2]; exact h2
          have hc2 := h2'.first 0 (M1 := M2) (by rw [hM2, n2])
          obtain ⟨M3, d1, d2, d3, d4, d5⟩ := dropLot_ok (N := N) (p := p) (i := 0) (by omega) hc2 (by rw [List.length_cons]; exact hl12) (by rw [List.length_cons]; omega)
          rw [show F_X2_dropLot N p 0 M2 = some (M3, 0) from d1, xbd_some]
          unfold L_X2_pumpInto_75
          rw [pk_m1, xl_v]
          obtain ⟨M4, g1, g2, g3, g4, g5, g6⟩ := ih l (s - x.2.1) M3 (by omega) d2 h3.tail (by omega)
          refine ⟨M4, g1, by rw [pumpL_le h0 hle]; exact g2, fun k a b c d => ?_, fun t a => ?_, fun k a => ?_, fun d q hd hq => ?_⟩
          · rw [g3 k a b c d, d4 k a b c d, hM2, xS_ne c, n2]
          · rw [g4 t a, d5 t a, hM2, xS_ne (by omega), n2]
          · rw [g5 k a, d3, hM2]
            exact n3 k a
          · rw [g6 d q hd hq, pumpN_le h0 hle]
            have e1 : bitsM M3 k1 d q = bitsM M1 k1 d q := by unfold bitsM; rw [d3, hM2]; rfl
            rw [e1, n4 d q hd hq]
            cases bitsM M k1 d q <;> cases decide (d = c) <;> rfl
        · have y3 : (if nI x.2.1 < nI s then nI x.2.1 else nI s) = nI s := if_neg (nI_nlt (by omega) (by omega))
          rw [y3, xl_v, n1, xbd_some]
          dsimp only
          rw [n2]
          obtain ⟨M2, hM2⟩ : ∃ M2, M2 = xS M1 (p + 3) (upd (M.1 (p + 3)) 0 (nI (x.2.1 - s))) := ⟨_, rfl⟩
          rw [show xS M1 (p + 3) (upd (M.1 (p + 3)) (0 : Int32).toNatClampNeg (M.1 (p + 3) (0 : Int32).toNatClampNeg - nI s)) = M2 from by rw [hM2, show M.1 (p + 3) (0 : Int32).toNatClampNeg = nI x.2.1 from hx.2.1, pk_sub (by omega)]; rfl, xl_v, pk_sub (Nat.le_refl s), Nat.sub_self, xl_v, if_neg (show ¬ M2.1 (p + 3) (0 : Int32).toNatClampNeg = 0 from by rw [hM2, show (xS M1 (p + 3) (upd (M.1 (p + 3)) 0 (nI (x.2.1 - s)))).1 (p + 3) (0 : Int32).toNatClampNeg = nI (x.2.1 - s) from by rw [xS_at]; exact pk_us]; exact nI_ne0 (by omega) (by omega))]
          unfold L_X2_pumpInto_75
          rw [pk_m1, xl_v, stop n _ _ (by omega)]
          have h2' : CM M1 p (x :: l) := by unfold CM; rw [n2]; exact h2
          refine ⟨M2, rfl, by rw [pumpL_gt h0 hle]; exact h2'.first _ (by rw [hM2, n2]), fun k a b c d => by rw [hM2, xS_ne c, n2], fun t a => by rw [hM2, xS_ne (by omega), n2], fun k a => by rw [hM2]; exact n3 k a, fun d q hd hq => ?_⟩
          rw [pumpN_gt h0 hle]
          have e1 : bitsM M2 k1 d q = bitsM M1 k1 d q := by rw [hM2]; rfl
          rw [e1, n4 d q hd hq]
/-- the class's pumpInto -/
theorem pumpInto_ok {N p k1 c s : Nat} {M : xM} {l : List LT} (hN : 40 ≤ N) (hc : c < 8) (hp : k1 + 1 ≠ p ∧ k1 + 1 ≠ p + 2 ∧ k1 + 1 ≠ p + 3 ∧ k1 + 1 ≠ p + 4) (h : CM M p l) (ho : okL l) (hs : s ≤ sumL l) : ∃ M1, F_X2_pumpInto N p k1 (nI c) (nI s) M = some (M1, 0) ∧ CM M1 p (pumpL l s) ∧ (∀ k, k ≠ p → k ≠ p + 2 → k ≠ p + 3 → k ≠ p + 4 → k ≠ k1 + 1 → M1.1 k = M.1 k) ∧ (∀ t, t ≠ 6 → t ≠ 3 → M1.1 p t = M.1 p t) ∧ M1.1 p 3 = M.1 p 3 + nI s ∧ (∀ d, d ≠ c → M1.1 (k1 + 1) d = M.1 (k1 + 1) d) ∧ M1.1 (k1 + 1) c = M.1 (k1 + 1) c + nI s ∧ (∀ k, k ≠ k1 + 2 → M1.2 k = M.2 k) ∧ ∀ d q, d < 8 → q < 100 → bitsM M1 k1 d q = (bitsM M k1 d q || (decide (d = c) && pumpN l s q)) := by
  obtain ⟨M1, g1, g2, g3, g4, g5, g6⟩ := pumpM (N := N) (p := p) (k1 := k1) (c := c) (v3 := nI s) hN hc N l s M (by have := ho.1; omega) h ho hs
  obtain ⟨M2, hM2⟩ : ∃ M2, M2 = xS M1 (k1 + 1) (upd (M1.1 (k1 + 1)) c (M1.1 (k1 + 1) c + nI s)) := ⟨_, rfl⟩
  obtain ⟨M3, hM3⟩ : ∃ M3, M3 = xS M2 p (upd (M2.1 p) 3 (M2.1 p 3 + nI s)) := ⟨_, rfl⟩
  obtain ⟨p0, p2, p3, p4⟩ := hp
  have hq : M2.1 p = M1.1 p := by rw [hM2, xS_ne (Ne.symm p0)]
  refine ⟨M3, ?_, ⟨?_, ?_⟩, fun k a b c d e => ?_, fun t a b => ?_, ?_, fun d hd => ?_, ?_, fun k hk => ?_, fun d q hd hq => ?_⟩
  · unfold F_X2_pumpInto
    rw [h.1, xl_v, g1]
    unfold L_X2_pumpInto_81
    rw [ck_nI hc (by decide), ck_nI hc (by decide), nI_clamp (by omega), xl_v, ← hM2, xl_v, ← hM3]
  · rw [hM3, xS_f (by omega), hq]
    exact g2.1
  · rw [hM3, xS_ne (by omega), xS_ne (by omega), xS_ne (by omega), hM2, xS_ne (Ne.symm p2), xS_ne (Ne.symm p3), xS_ne (Ne.symm p4)]
    exact g2.2
  · rw [hM3, xS_ne a, hM2, xS_ne e]
    exact g3 k a b c d
  · rw [hM3, xS_f b, hq]
    exact g4 t a
  · rw [hM3, xS_in, hq, g4 3 (by omega)]
  · rw [hM3, xS_ne p0, hM2, xS_f hd]
    exact congrFun (g3 _ p0 p2 p3 p4) d
  · rw [hM3, xS_ne p0, hM2, xS_in, g3 _ p0 p2 p3 p4]
  · rw [hM3, hM2]
    exact g5 k hk
  · have e1 : bitsM M3 k1 d q = bitsM M1 k1 d q := by rw [hM3, hM2]; rfl
    rw [e1]
    exact g6 d q hd hq
