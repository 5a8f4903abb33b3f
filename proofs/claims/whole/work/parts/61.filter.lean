/-! lots that go: recalled, wasted -/
def sumL : List LT → Nat
  | [] => 0
  | x :: l => x.2.1 + sumL l
theorem sumL_app (a b : List LT) : sumL (a ++ b) = sumL a + sumL b := by
  induction a with
  | nil => exact (Nat.zero_add _).symm
  | cons x a ih => show x.2.1 + sumL (a ++ b) = x.2.1 + sumL a + sumL b; rw [ih]; omega
def okL (l : List LT) : Prop := l.length ≤ 12 ∧ ∀ x ∈ l, x.1 ≤ 99 ∧ 1 ≤ x.2.1 ∧ x.2.1 ≤ 500 ∧ x.2.2 ≤ 499
theorem okL.filter {l : List LT} (h : okL l) (P : LT → Bool) : okL (l.filter P) := ⟨Nat.le_trans (List.length_filter_le _ _) h.1, fun x hx => h.2 x ((List.mem_filter.mp hx).1)⟩
theorem filt_t {P : LT → Bool} {x : LT} (h : P x = true) : List.filter P [x] = [x] := by simp only [List.filter, h]
theorem filt_f {P : LT → Bool} {x : LT} (h : P x = false) : List.filter P [x] = [] := by simp only [List.filter, h]
theorem erase_mid {a F : List LT} {x : LT} : (a ++ x :: F).eraseIdx a.length = a ++ F := by
  induction a with
  | nil => rfl
  | cons y a ih => exact congrArg (List.cons y) ih
theorem get_mid {a F : List LT} {x : LT} : (a ++ x :: F)[a.length]? = some x := by
  induction a with
  | nil => rfl
  | cons y a ih => exact ih
theorem snoc_cases (a : List LT) : a = [] ∨ ∃ b x, a = b ++ [x] := by
  induction a with
  | nil => exact Or.inl rfl
  | cons y a ih =>
    rcases ih with rfl | ⟨b, x, rfl⟩
    · exact Or.inr ⟨[], y, rfl⟩
    · exact Or.inr ⟨y :: b, x, rfl⟩
theorem i_m1 (n : Nat) : nI n + (-1) = nI n - 1 := by
  rw [Int32.sub_eq_add_neg]
theorem takeBack_ok {N p q : Nat} {M : xM} {l : List LT} (hN : 30 ≤ N) (h : CM M p l) (ho : okL l) (hq : q ≤ 99) : ∃ M1, F_X2_takeBackLots N p (nI q) M = some (xS M1 p (upd (M1.1 p) 4 (M1.1 p 4 + nI (sumL (l.filter (fun x => decide (x.1 = q)))))), nI (sumL (l.filter (fun x => decide (x.1 = q))))) ∧ CM M1 p (l.filter (fun x => !decide (x.1 = q))) ∧ FrM p M M1 := by
  have loop : ∀ n (a F : List LT) g M0, a.length < n → CM M0 p (a ++ F) → okL (a ++ F) → ∃ M1, L_X2_takeBackLots_9 N p n (nI q) (nI g) (nI a.length - 1) M0 = some (xS M1 p (upd (M1.1 p) 4 (M1.1 p 4 + nI (g + sumL (a.filter (fun x => decide (x.1 = q)))))), nI (g + sumL (a.filter (fun x => decide (x.1 = q))))) ∧ CM M1 p (a.filter (fun x => !decide (x.1 = q)) ++ F) ∧ FrM p M0 M1 := by
    intro n
    induction n with
    | zero => intro a F g M0 h1; omega
    | succ n ih =>
      intro a F g M0 h1 h2 h3
      rw [L_X2_takeBackLots_9]
      rcases snoc_cases a with rfl | ⟨b, x, rfl⟩
      · rw [if_pos (by decide)]
        exact ⟨M0, rfl, h2, FrM.rf⟩
      · have hlen : (b ++ [x]).length = b.length + 1 := by rw [List.length_append]; rfl
        have happ : b ++ [x] ++ F = b ++ x :: F := by rw [List.append_assoc]; rfl
        rw [happ] at h2 h3
        have hb12 : b.length < 12 := by have := h3.1; rw [List.length_append, List.length_cons] at this; omega
        rw [hlen, nI_pred, if_neg (nI_pos (by omega)), ck_nI hb12 (by decide), ck_nI hb12 (by decide), nI_clamp (by omega)]
        have hx := h2.2 b.length x get_mid
        have hxm := h3.2 x (List.mem_append_right _ (List.mem_cons_self ..))
        rw [hx.1, hx.2.1, List.filter_append, List.filter_append]
        by_cases hxq : x.1 = q
        · rw [if_pos (congrArg nI hxq), nI_add, xl_v]
          obtain ⟨M1, e1, e2, e3⟩ := dropLot_ok (N := N) (p := p) (i := b.length) hN h2 h3.1 (by rw [List.length_append, List.length_cons]; omega)
          rw [erase_mid] at e2
          rw [e1, xbd_some]
          unfold L_X2_takeBackLots_37
          rw [i_m1, xl_v]
          obtain ⟨M2, g1, g2, g3⟩ := ih b F (g + x.2.1) M1 (by omega) e2 ⟨by have := h3.1; rw [List.length_append, List.length_cons] at this; rw [List.length_append]; omega, fun y hy => h3.2 y (by rcases List.mem_append.mp hy with m | m; exact List.mem_append_left _ m; exact List.mem_append_right _ (List.mem_cons_of_mem _ m))⟩
          have k1 : List.filter (fun x => decide (x.1 = q)) [x] = [x] := by exact filt_t (decide_eq_true hxq)
          have k2 : List.filter (fun x => !decide (x.1 = q)) [x] = [] := by exact filt_f (by rw [decide_eq_true hxq]; rfl)
          have k3 : g + sumL (List.filter (fun x => decide (x.1 = q)) b ++ [x]) = g + x.2.1 + sumL (List.filter (fun x => decide (x.1 = q)) b) := by
            rw [sumL_app]
            show g + (sumL _ + (x.2.1 + 0)) = _
            omega
          rw [k1, k2, k3, List.append_nil]
          exact ⟨M2, g1, g2, e3.tr g3⟩
        · rw [if_neg (fun e => hxq ((nI_eq (by omega) (by omega)).mp e))]
          unfold L_X2_takeBackLots_37
          rw [i_m1, xl_v]
          obtain ⟨M2, g1, g2, g3⟩ := ih b (x :: F) g M0 (by omega) h2 h3
          have k1 : List.filter (fun x => decide (x.1 = q)) [x] = [] := by exact filt_f (decide_eq_false hxq)
          have k2 : List.filter (fun x => !decide (x.1 = q)) [x] = [x] := by exact filt_t (by rw [decide_eq_false hxq]; rfl)
          rw [k1, k2, List.append_nil, List.append_assoc]
          exact ⟨M2, g1, g2, g3⟩
  obtain ⟨M1, g1, g2, g3⟩ := loop N l [] 0 M (by have := ho.1; omega) (by rw [List.append_nil]; exact h) (by rw [List.append_nil]; exact ho)
  rw [List.append_nil] at g2
  rw [Nat.zero_add] at g1
  refine ⟨M1, ?_, g2, g3⟩
  unfold F_X2_takeBackLots
  rw [h.1, xl_v]
  exact g1
theorem waste_ok {N p q : Nat} {M : xM} {l : List LT} (hN : 30 ≤ N) (h : CM M p l) (ho : okL l) (hq : q ≤ 499) : ∃ M1, F_X2_wasteOldLots N p (nI q) M = some (xS M1 p (upd (M1.1 p) 5 (M1.1 p 5 + nI (sumL (l.filter (fun x => decide (x.2.2 < q)))))), nI (sumL (l.filter (fun x => decide (x.2.2 < q))))) ∧ CM M1 p (l.filter (fun x => !decide (x.2.2 < q))) ∧ FrM p M M1 := by
  have loop : ∀ n (a F : List LT) g M0, a.length < n → CM M0 p (a ++ F) → okL (a ++ F) → ∃ M1, L_X2_wasteOldLots_9 N p n (nI q) (nI g) (nI a.length - 1) M0 = some (xS M1 p (upd (M1.1 p) 5 (M1.1 p 5 + nI (g + sumL (a.filter (fun x => decide (x.2.2 < q)))))), nI (g + sumL (a.filter (fun x => decide (x.2.2 < q))))) ∧ CM M1 p (a.filter (fun x => !decide (x.2.2 < q)) ++ F) ∧ FrM p M0 M1 := by
    intro n
    induction n with
    | zero => intro a F g M0 h1; omega
    | succ n ih =>
      intro a F g M0 h1 h2 h3
      rw [L_X2_wasteOldLots_9]
      rcases snoc_cases a with rfl | ⟨b, x, rfl⟩
      · rw [if_pos (by decide)]
        exact ⟨M0, rfl, h2, FrM.rf⟩
      · have hlen : (b ++ [x]).length = b.length + 1 := by rw [List.length_append]; rfl
        have happ : b ++ [x] ++ F = b ++ x :: F := by rw [List.append_assoc]; rfl
        rw [happ] at h2 h3
        have hb12 : b.length < 12 := by have := h3.1; rw [List.length_append, List.length_cons] at this; omega
        rw [hlen, nI_pred, if_neg (nI_pos (by omega)), ck_nI hb12 (by decide), ck_nI hb12 (by decide), nI_clamp (by omega)]
        have hx := h2.2 b.length x get_mid
        have hxm := h3.2 x (List.mem_append_right _ (List.mem_cons_self ..))
        rw [hx.2.2, hx.2.1, List.filter_append, List.filter_append]
        by_cases hxq : x.2.2 < q
        · rw [if_neg (nI_ge hxq (by omega)), nI_add, xl_v]
          obtain ⟨M1, e1, e2, e3⟩ := dropLot_ok (N := N) (p := p) (i := b.length) hN h2 h3.1 (by rw [List.length_append, List.length_cons]; omega)
          rw [erase_mid] at e2
          rw [e1, xbd_some]
          unfold L_X2_wasteOldLots_37
          rw [i_m1, xl_v]
          obtain ⟨M2, g1, g2, g3⟩ := ih b F (g + x.2.1) M1 (by omega) e2 ⟨by have := h3.1; rw [List.length_append, List.length_cons] at this; rw [List.length_append]; omega, fun y hy => h3.2 y (by rcases List.mem_append.mp hy with m | m; exact List.mem_append_left _ m; exact List.mem_append_right _ (List.mem_cons_of_mem _ m))⟩
          have k1 : List.filter (fun x => decide (x.2.2 < q)) [x] = [x] := by exact filt_t (decide_eq_true hxq)
          have k2 : List.filter (fun x => !decide (x.2.2 < q)) [x] = [] := by exact filt_f (by rw [decide_eq_true hxq]; rfl)
          have k3 : g + sumL (List.filter (fun x => decide (x.2.2 < q)) b ++ [x]) = g + x.2.1 + sumL (List.filter (fun x => decide (x.2.2 < q)) b) := by
            rw [sumL_app]
            show g + (sumL _ + (x.2.1 + 0)) = _
            omega
          rw [k1, k2, k3, List.append_nil]
          exact ⟨M2, g1, g2, e3.tr g3⟩
        · rw [if_pos (nI_le (by omega) (by omega))]
          unfold L_X2_wasteOldLots_37
          rw [i_m1, xl_v]
          obtain ⟨M2, g1, g2, g3⟩ := ih b (x :: F) g M0 (by omega) h2 h3
          have k1 : List.filter (fun x => decide (x.2.2 < q)) [x] = [] := by exact filt_f (decide_eq_false hxq)
          have k2 : List.filter (fun x => !decide (x.2.2 < q)) [x] = [x] := by exact filt_t (by rw [decide_eq_false hxq]; rfl)
          rw [k1, k2, List.append_nil, List.append_assoc]
          exact ⟨M2, g1, g2, g3⟩
  obtain ⟨M1, g1, g2, g3⟩ := loop N l [] 0 M (by have := ho.1; omega) (by rw [List.append_nil]; exact h) (by rw [List.append_nil]; exact ho)
  rw [List.append_nil] at g2
  rw [Nat.zero_add] at g1
  refine ⟨M1, ?_, g2, g3⟩
  unfold F_X2_wasteOldLots
  rw [h.1, xl_v]
  exact g1
/-- the reference's reads of a canister that shows a list -/
theorem rdCx {N c k : Nat} {R : xM} (hc : c < 8) (hk : k < 46) : F_X10_colorantAt N (nI c) (nI k) R = some (R, R.1 1 (5 + 46 * c + k)) := by
  unfold F_X10_colorantAt
  rw [show ((5 : Int32) + (46 * nI c)) + nI k = nI (5 + 46 * c + k) from by show nI 5 + nI 46 * nI c + nI k = _; rw [pk_mul, nI_add, nI_add], ck_nI (by omega) (by decide), nI_clamp (by omega)]
theorem CR.rd {N c j : Nat} {R : xM} {l : List LT} {x : LT} (h : CR (R.1 1) (5 + 46 * c) l) (hc : c < 8) (hj : j < 12) (hx : l[j]? = some x) : F_X10_colorantAt N (nI c) (7 + nI j) R = some (R, nI x.1) ∧ F_X10_colorantAt N (nI c) (19 + nI j) R = some (R, nI x.2.1) ∧ F_X10_colorantAt N (nI c) (31 + nI j) R = some (R, nI x.2.2) := by
  obtain ⟨h1, h2, h3⟩ := h.2 j x hx
  refine ⟨?_, ?_, ?_⟩
  · rw [show (7 : Int32) + nI j = nI (7 + j) from nI_add 7 j, rdCx hc (by omega), show 5 + 46 * c + (7 + j) = 5 + 46 * c + 7 + j by omega, show R.1 1 (5 + 46 * c + 7 + j) = _ from h1]
  · rw [show (19 : Int32) + nI j = nI (19 + j) from nI_add 19 j, rdCx hc (by omega), show 5 + 46 * c + (19 + j) = 5 + 46 * c + 19 + j by omega, show R.1 1 (5 + 46 * c + 19 + j) = _ from h2]
  · rw [show (31 : Int32) + nI j = nI (31 + j) from nI_add 31 j, rdCx hc (by omega), show 5 + 46 * c + (31 + j) = 5 + 46 * c + 31 + j by omega, show R.1 1 (5 + 46 * c + 31 + j) = _ from h3]
theorem recall_ok {N c q : Nat} {R : xM} {l : List LT} (hN : 30 ≤ N) (hc : c < 8) (h : CR (R.1 1) (5 + 46 * c) l) (ho : okL l) (hq : q ≤ 99) : ∃ R1, L_X10_recall_43 N N (nI c) (nI q) 0 (nI l.length - 1) R = some (xS (xS R1 1 (upd (R1.1 1) (5 + 46 * c + 6) (R1.1 1 (5 + 46 * c + 6) + nI (sumL (l.filter (fun x => decide (x.1 = q))))))) 0 (upd (R1.1 0) 0 0), nI (sumL (l.filter (fun x => decide (x.1 = q))))) ∧ CR (R1.1 1) (5 + 46 * c) (l.filter (fun x => !decide (x.1 = q))) ∧ FrR (5 + 46 * c) R R1 := by
  have loop : ∀ n (a F : List LT) g R0, a.length < n → CR (R0.1 1) (5 + 46 * c) (a ++ F) → okL (a ++ F) → ∃ R1, L_X10_recall_43 N n (nI c) (nI q) (nI g) (nI a.length - 1) R0 = some (xS (xS R1 1 (upd (R1.1 1) (5 + 46 * c + 6) (R1.1 1 (5 + 46 * c + 6) + nI (g + sumL (a.filter (fun x => decide (x.1 = q))))))) 0 (upd (R1.1 0) 0 0), nI (g + sumL (a.filter (fun x => decide (x.1 = q))))) ∧ CR (R1.1 1) (5 + 46 * c) (a.filter (fun x => !decide (x.1 = q)) ++ F) ∧ FrR (5 + 46 * c) R0 R1 := by
    intro n
    induction n with
    | zero => intro a F g M0 h1; omega
    | succ n ih =>
      intro a F g R0 h1 h2 h3
      rw [L_X10_recall_43]
      rcases snoc_cases a with rfl | ⟨b, x, rfl⟩
      · rw [if_pos (by decide), show ((5 : Int32) + (46 * nI c)) + 6 = nI (5 + 46 * c + 6) from by show nI 5 + nI 46 * nI c + nI 6 = _; rw [pk_mul, nI_add, nI_add], ck_nI (by omega) (by decide), ck_nI (by omega) (by decide), nI_clamp (by omega)]
        exact ⟨R0, rfl, h2, FrR.rf⟩
      · have hlen : (b ++ [x]).length = b.length + 1 := by rw [List.length_append]; rfl
        have happ : b ++ [x] ++ F = b ++ x :: F := by rw [List.append_assoc]; rfl
        rw [happ] at h2 h3
        have hb12 : b.length < 12 := by have := h3.1; rw [List.length_append, List.length_cons] at this; omega
        have hx := CR.rd (N := N) h2 hc hb12 get_mid
        have hxm := h3.2 x (List.mem_append_right _ (List.mem_cons_self ..))
        rw [hlen, nI_pred, if_neg (nI_pos (by omega)), hx.1, xbd_some, List.filter_append, List.filter_append]
        dsimp only
        by_cases hxq : x.1 = q
        · rw [if_pos (congrArg nI hxq), hx.2.1, xbd_some, nI_add, xl_v]
          obtain ⟨M1, e1, e2, e3⟩ := goes_ok (N := N) (c := c) (i := b.length) hN hc h2 h3.1 (by rw [List.length_append, List.length_cons]; omega)
          rw [erase_mid] at e2
          rw [e1, xbd_some]
          unfold L_X10_recall_82
          rw [i_m1, xl_v]
          obtain ⟨M2, g1, g2, g3⟩ := ih b F (g + x.2.1) M1 (by omega) e2 ⟨by have := h3.1; rw [List.length_append, List.length_cons] at this; rw [List.length_append]; omega, fun y hy => h3.2 y (by rcases List.mem_append.mp hy with m | m; exact List.mem_append_left _ m; exact List.mem_append_right _ (List.mem_cons_of_mem _ m))⟩
          have k1 : List.filter (fun x => decide (x.1 = q)) [x] = [x] := by exact filt_t (decide_eq_true hxq)
          have k2 : List.filter (fun x => !decide (x.1 = q)) [x] = [] := by exact filt_f (by rw [decide_eq_true hxq]; rfl)
          have k3 : g + sumL (List.filter (fun x => decide (x.1 = q)) b ++ [x]) = g + x.2.1 + sumL (List.filter (fun x => decide (x.1 = q)) b) := by
            rw [sumL_app]
            show g + (sumL _ + (x.2.1 + 0)) = _
            omega
          rw [k1, k2, k3, List.append_nil]
          exact ⟨M2, g1, g2, e3.tr g3⟩
        · rw [if_neg (fun e => hxq ((nI_eq (by omega) (by omega)).mp e))]
          unfold L_X10_recall_82
          rw [i_m1, xl_v]
          obtain ⟨M2, g1, g2, g3⟩ := ih b (x :: F) g R0 (by omega) h2 h3
          have k1 : List.filter (fun x => decide (x.1 = q)) [x] = [] := by exact filt_f (decide_eq_false hxq)
          have k2 : List.filter (fun x => !decide (x.1 = q)) [x] = [x] := by exact filt_t (by rw [decide_eq_false hxq]; rfl)
          rw [k1, k2, List.append_nil, List.append_assoc]
          exact ⟨M2, g1, g2, g3⟩
  obtain ⟨M1, g1, g2, g3⟩ := loop N l [] 0 R (by have := ho.1; omega) (by rw [List.append_nil]; exact h) (by rw [List.append_nil]; exact ho)
  rw [List.append_nil] at g2
  rw [Nat.zero_add] at g1
  exact ⟨M1, g1, g2, g3⟩
theorem wastes_ok {N c q : Nat} {R : xM} {l : List LT} (hN : 30 ≤ N) (hc : c < 8) (h : CR (R.1 1) (5 + 46 * c) l) (ho : okL l) (hq : q ≤ 499) (h4 : R.1 1 4 = nI q) : ∃ R1, F_X10_wastes N (nI c) R = some (xS R1 1 (upd (R1.1 1) (5 + 46 * c + 43) (R1.1 1 (5 + 46 * c + 43) + nI (sumL (l.filter (fun x => decide (x.2.2 < q)))))), nI (sumL (l.filter (fun x => decide (x.2.2 < q))))) ∧ CR (R1.1 1) (5 + 46 * c) (l.filter (fun x => !decide (x.2.2 < q))) ∧ FrR (5 + 46 * c) R R1 := by
  have loop : ∀ n (a F : List LT) g R0, a.length < n → R0.1 1 4 = nI q → CR (R0.1 1) (5 + 46 * c) (a ++ F) → okL (a ++ F) → ∃ R1, L_X10_wastes_11 N n (nI c) (nI g) (nI a.length - 1) R0 = some (xS R1 1 (upd (R1.1 1) (5 + 46 * c + 43) (R1.1 1 (5 + 46 * c + 43) + nI (g + sumL (a.filter (fun x => decide (x.2.2 < q)))))), nI (g + sumL (a.filter (fun x => decide (x.2.2 < q))))) ∧ CR (R1.1 1) (5 + 46 * c) (a.filter (fun x => !decide (x.2.2 < q)) ++ F) ∧ FrR (5 + 46 * c) R0 R1 := by
    intro n
    induction n with
    | zero => intro a F g M0 h1; omega
    | succ n ih =>
      intro a F g R0 h1 h4 h2 h3
      rw [L_X10_wastes_11]
      rcases snoc_cases a with rfl | ⟨b, x, rfl⟩
      · rw [if_pos (by decide), show ((5 : Int32) + (46 * nI c)) + 43 = nI (5 + 46 * c + 43) from by show nI 5 + nI 46 * nI c + nI 43 = _; rw [pk_mul, nI_add, nI_add], ck_nI (by omega) (by decide), ck_nI (by omega) (by decide), nI_clamp (by omega)]
        exact ⟨R0, rfl, h2, FrR.rf⟩
      · have hlen : (b ++ [x]).length = b.length + 1 := by rw [List.length_append]; rfl
        have happ : b ++ [x] ++ F = b ++ x :: F := by rw [List.append_assoc]; rfl
        rw [happ] at h2 h3
        have hb12 : b.length < 12 := by have := h3.1; rw [List.length_append, List.length_cons] at this; omega
        have hx := CR.rd (N := N) h2 hc hb12 get_mid
        have hxm := h3.2 x (List.mem_append_right _ (List.mem_cons_self ..))
        rw [hlen, nI_pred, if_neg (nI_pos (by omega)), hx.2.2, xbd_some, List.filter_append, List.filter_append]
        dsimp only
        rw [show R0.1 1 (4 : Int32).toNatClampNeg = nI q from h4]
        by_cases hxq : x.2.2 < q
        · rw [if_neg (nI_ge hxq (by omega)), hx.2.1, xbd_some, nI_add, xl_v]
          obtain ⟨M1, e1, e2, e3⟩ := goes_ok (N := N) (c := c) (i := b.length) hN hc h2 h3.1 (by rw [List.length_append, List.length_cons]; omega)
          rw [erase_mid] at e2
          rw [e1, xbd_some]
          unfold L_X10_wastes_51
          rw [i_m1, xl_v]
          obtain ⟨M2, g1, g2, g3⟩ := ih b F (g + x.2.1) M1 (by omega) ((e3.2.2 4 (by omega) (by omega)).trans h4) e2 ⟨by have := h3.1; rw [List.length_append, List.length_cons] at this; rw [List.length_append]; omega, fun y hy => h3.2 y (by rcases List.mem_append.mp hy with m | m; exact List.mem_append_left _ m; exact List.mem_append_right _ (List.mem_cons_of_mem _ m))⟩
          have k1 : List.filter (fun x => decide (x.2.2 < q)) [x] = [x] := by exact filt_t (decide_eq_true hxq)
          have k2 : List.filter (fun x => !decide (x.2.2 < q)) [x] = [] := by exact filt_f (by rw [decide_eq_true hxq]; rfl)
          have k3 : g + sumL (List.filter (fun x => decide (x.2.2 < q)) b ++ [x]) = g + x.2.1 + sumL (List.filter (fun x => decide (x.2.2 < q)) b) := by
            rw [sumL_app]
            show g + (sumL _ + (x.2.1 + 0)) = _
            omega
          rw [k1, k2, k3, List.append_nil]
          exact ⟨M2, g1, g2, e3.tr g3⟩
        · rw [if_pos (nI_le (by omega) (by omega))]
          unfold L_X10_wastes_51
          rw [i_m1, xl_v]
          obtain ⟨M2, g1, g2, g3⟩ := ih b (x :: F) g R0 (by omega) h4 h2 h3
          have k1 : List.filter (fun x => decide (x.2.2 < q)) [x] = [] := by exact filt_f (decide_eq_false hxq)
          have k2 : List.filter (fun x => !decide (x.2.2 < q)) [x] = [x] := by exact filt_t (by rw [decide_eq_false hxq]; rfl)
          rw [k1, k2, List.append_nil, List.append_assoc]
          exact ⟨M2, g1, g2, g3⟩
  obtain ⟨M1, g1, g2, g3⟩ := loop N l [] 0 R (by have := ho.1; omega) h4 (by rw [List.append_nil]; exact h) (by rw [List.append_nil]; exact ho)
  rw [List.append_nil] at g2
  rw [Nat.zero_add] at g1
  refine ⟨M1, ?_, g2, g3⟩
  unfold F_X10_wastes
  rw [show F_X10_colorantAt N (nI c) 3 R = _ from rdCx (k := 3) hc (by omega), xbd_some]
  dsimp only
  rw [h.1, xl_v]
  exact g1
