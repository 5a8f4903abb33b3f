/-! recall, pass -/
theorem o_3 {N : Nat} (hN : 12000 ≤ N) {v1 v2 v3 v4 v5 v6 : Int32} {M R : xM} (h : Rel M R) : ∃ q, zOp_3 N v1 v2 v3 v4 v5 v6 M R = some q ∧ Rel q.1 q.2 := by
  refine zAgr (hd := h2) ?_
  obtain ⟨⟨G, B, hd⟩, hx⟩ := id h
  obtain ⟨⟨m0, r0⟩, -⟩ := hd.n0
  have hb := hd.2.2.2.2.1
  rcases zCol (N := N) (n := G 0) (by omega) m0 r0 v1 with ⟨c, hc, rfl, e1, e2⟩ | ⟨e1, e2⟩
  · have hc8 : c < 8 := by omega
    rcases zRange (N := N) v2 0 99 M R with ⟨l1, l2, e3, e4⟩ | ⟨e3, e4⟩
    · obtain ⟨x, hx1, hx2, rfl⟩ := zNat (a := 0) (b := 99) rfl rfl l1 l2
      have e4' : F_X10_isLot N (nI x) R = some (R, 1) := by unfold F_X10_isLot; rw [e4]; rfl
      have hlo := LG_ok (hd.2.2.2.2.2.1 c hc8)
      obtain ⟨M1, R1, k1, k2, kx, km, kr, ks⟩ := keep_ok hN h
      have hd1 : DS M1 0 (R1.1 1) G B := hd.cong (fun k hk => (km _ (by omega)).1) (fun k hk => (km _ (by omega)).2) (fun i hi => by rw [kr 1 (by omega) (by omega)])
      have ce1 := hd1.ce hc8
      obtain ⟨l, hl⟩ : ∃ l, l = LG G c := ⟨_, rfl⟩
      rw [← hl] at ce1 hlo
      obtain ⟨M2, f1, f2, f3, f4, f5⟩ := takeBack_ok (N := N) (p := 5 + 5 * c) (q := x) (by omega) ce1.1 hlo hx2
      obtain ⟨R2, g1, g2, g3, g4, g5⟩ := recall_ok (N := N) (c := c) (q := x) (by omega) hc8 ce1.2.1 hlo hx2
      obtain ⟨s, hs⟩ : ∃ s, s = sumL (l.filter (fun y => decide (y.1 = x))) := ⟨_, rfl⟩
      rw [← hs] at f1 g1
      obtain ⟨M3, hM3⟩ : ∃ M3, M3 = xS M2 (5 + 5 * c) (upd (M2.1 (5 + 5 * c)) 4 (M2.1 (5 + 5 * c) 4 + nI s)) := ⟨_, rfl⟩
      obtain ⟨R3, hR3⟩ : ∃ R3, R3 = xS R2 1 (upd (R2.1 1) (5 + 46 * c + 6) (R2.1 1 (5 + 46 * c + 6) + nI s)) := ⟨_, rfl⟩
      rw [← hM3] at f1
      rw [← hR3] at g1
      have hok := hlo.filter (fun y => !decide (y.1 = x))
      have u0 : ∀ j, j ≠ 5 + 46 * c + 3 → j ≠ 5 + 46 * c + 6 → (j < 5 + 46 * c + 7 ∨ 5 + 46 * c + 43 ≤ j) → R3.1 1 j = R1.1 1 j := fun j a b d => by rw [hR3, xS_f b, g5 j a d]
      have w0 : ∀ k, k < 5 + 5 * c ∨ 10 + 5 * c ≤ k → M3.1 k = M1.1 k := fun k hk => by rw [hM3, xS_ne (by omega), f4 k (by omega) (by omega) (by omega) (by omega)]
      have w1 : ∀ s, s ≠ 6 → s ≠ 4 → M3.1 (5 + 5 * c) s = M1.1 (5 + 5 * c) s := fun s a b => by rw [hM3, xS_f b, f5 s a]
      refine Or.inl ⟨M3, xS R3 0 (upd (R3.1 0) 0 0), nI s, ?_, ?_, xS_in, ?_⟩
      · unfold F_X9_recall
        rw [e1, xbd_some, xth_inl, e3, xbd_some, xth_inl, k1, xbd_some, ck_nI (by omega) (by decide), nI_clamp (by omega), show (0 : Nat) + 5 + 5 * c = 5 + 5 * c by omega, f1]
        rfl
      · unfold F_X10_recall
        rw [e2, xbd_some, if_neg i1n, e4', xbd_some, if_neg i1n, k2, xbd_some, show F_X10_colorantAt N (nI c) 3 R1 = _ from rdCx (k := 3) hc8 (by omega), xbd_some]
        dsimp only
        rw [ce1.2.1.1, xl_v, g1, show R3.1 0 = R2.1 0 from by rw [hR3, xS_ne (by omega)]]
      · have hCE : CE M3 (R3.1 1) c (l.filter (fun y => !decide (y.1 = x))) := by
          refine ⟨?_, ?_, fun a ha => ?_, ?_, ?_, ?_, ?_, ?_⟩
          · refine ⟨?_, ?_⟩
            · rw [hM3, xS_f (by omega)]; exact f2.1
            · rw [hM3, xS_ne (by omega), xS_ne (by omega), xS_ne (by omega)]; exact f2.2
          · refine ⟨?_, fun j z hz => ?_⟩
            · rw [hR3, xS_f (by omega)]; exact g2.1
            · have hj := len_some hz
              have := hok.1
              dsimp only
              rw [hR3, xS_f (by omega), xS_f (by omega), xS_f (by omega)]
              exact g2.2 j z hz
          · rw [hM3, xS_ne (by omega), f4 _ (by omega) (by omega) (by omega) (by omega), u0 _ (by omega) (by omega) (by omega)]; exact ce1.2.2.1 a ha
          · rw [w1 _ (by omega) (by omega), u0 _ (by omega) (by omega) (by omega)]; exact ce1.2.2.2.1
          · rw [w1 _ (by omega) (by omega), u0 _ (by omega) (by omega) (by omega)]; exact ce1.2.2.2.2.1
          · rw [hM3, xS_in, hR3, xS_in, f5 4 (by omega), g5 _ (by omega) (by omega), ce1.2.2.2.2.2.1]
          · rw [w1 _ (by omega) (by omega), u0 _ (by omega) (by omega) (by omega)]; exact ce1.2.2.2.2.2.2.1
          · rw [w1 _ (by omega) (by omega), u0 _ (by omega) (by omega) (by omega)]; exact ce1.2.2.2.2.2.2.2
        obtain ⟨G1, hd6⟩ := hd1.can1 (M1 := M3) (r1 := R3.1 1) (c := c) (l := l.filter (fun y => !decide (y.1 = x))) hc8 (fun k q1 q2 => w0 k q2) (fun k hk => by rw [hM3]; exact congrFun f3 _) (fun j q1 q2 => u0 j (by omega) (by omega) (by omega)) hCE hok (fun a ha => u0 _ (by omega) (by omega) (by omega)) (u0 _ (by omega) (by omega) (by omega))
        have uk : ∀ k, k ≠ 1 → R3.1 k = R1.1 k := fun k a => by rw [hR3, xS_ne a, g4 k a]
        exact (Rel.after (M := M1) (R := R1) kx ⟨fun k q1 q2 => w0 k (by omega), fun k q1 q2 => by rw [hM3]; exact congrFun f3 _⟩ ⟨uk 2 (by omega), uk 3 (by omega), uk 5 (by omega), by rw [uk 0 (by omega)], by rw [uk 0 (by omega)], by rw [uk 0 (by omega)], by rw [uk 0 (by omega)], by rw [uk 0 (by omega)], by rw [uk 0 (by omega)]⟩ hd6).thrown
    · have e4' : F_X10_isLot N v2 R = some (R, 0) := by unfold F_X10_isLot; rw [e4]; rfl
      refine Agr.no (E := "java/lang/IllegalArgumentException") (k := 2) (w := 0) h rfl (by decide) ?_ ?_
      · unfold F_X9_recall; rw [e1, xbd_some, xth_inl, e3]; rfl
      · unfold F_X10_recall; rw [e2, xbd_some, if_neg i1n, e4']; rfl
  · refine Agr.no (E := "java/lang/IndexOutOfBoundsException") (k := 1) (w := 0) h rfl (by decide) ?_ ?_
    · unfold F_X9_recall; rw [e1]; rfl
    · unfold F_X10_recall; rw [e2]; rfl
/-! pass: day by day, and at once -/
abbrev old (l : List LT) (d : Nat) : List LT := l.filter (fun x => decide (x.2.2 < d))
abbrev young (l : List LT) (d : Nat) : List LT := l.filter (fun x => !decide (x.2.2 < d))
theorem young_young {l : List LT} {d e : Nat} (h : d ≤ e) : young (young l d) e = young l e := by
  show List.filter _ (List.filter _ l) = List.filter _ l
  rw [List.filter_filter]
  refine List.filter_congr (fun x _ => ?_)
  by_cases h1 : x.2.2 < d
  · rw [decide_eq_true (show x.2.2 < e by omega)]
    rfl
  · rw [decide_eq_false h1]
    exact Bool.and_true _
theorem old_young : ∀ (l : List LT) {d e : Nat}, d ≤ e → sumL (old l d) + sumL (old (young l d) e) = sumL (old l e)
  | [], _, _, _ => rfl
  | x :: l, d, e, h => by
    have ih := old_young l h
    by_cases h1 : x.2.2 < d
    · have e1 : old (x :: l) d = x :: old l d := List.filter_cons_of_pos (decide_eq_true h1)
      have e2 : young (x :: l) d = young l d := List.filter_cons_of_neg (by rw [decide_eq_true h1]; decide)
      have e3 : old (x :: l) e = x :: old l e := List.filter_cons_of_pos (decide_eq_true (show x.2.2 < e by omega))
      rw [e1, e2, e3]
      show x.2.1 + _ + _ = x.2.1 + _
      omega
    · have e1 : old (x :: l) d = old l d := List.filter_cons_of_neg (by rw [decide_eq_false h1]; decide)
      have e2 : young (x :: l) d = x :: young l d := List.filter_cons_of_pos (by rw [decide_eq_false h1]; rfl)
      rw [e1, e2]
      by_cases h2 : x.2.2 < e
      · have e3 : old (x :: l) e = x :: old l e := List.filter_cons_of_pos (decide_eq_true h2)
        have e4 : old (x :: young l d) e = x :: old (young l d) e := List.filter_cons_of_pos (decide_eq_true h2)
        rw [e3, e4]
        show _ + (x.2.1 + _) = x.2.1 + _
        omega
      · have e3 : old (x :: l) e = old l e := List.filter_cons_of_neg (by rw [decide_eq_false h2]; decide)
        have e4 : old (x :: young l d) e = old (young l d) e := List.filter_cons_of_neg (by rw [decide_eq_false h2]; decide)
        rw [e3, e4]
        exact ih
theorem old_0 (l : List LT) : old l 0 = [] := List.filter_eq_nil_iff.mpr (fun x _ => by rw [decide_eq_false (Nat.not_lt_zero _)]; decide)
theorem young_0 (l : List LT) : young l 0 = l := List.filter_eq_self.mpr (fun x _ => by rw [decide_eq_false (Nat.not_lt_zero _)]; rfl)
def gone (G : Nat → Nat) (th : Nat → Nat) : Nat := sumN (fun c => sumL (old (LG G c) (th c))) (G 0)
theorem sumN_upd {f g : Nat → Nat} {i d : Nat} : ∀ {n : Nat}, i < n → (∀ k, k ≠ i → g k = f k) → g i = f i + d → sumN g n = sumN f n + d
  | 0, h, _, _ => absurd h (Nat.not_lt_zero _)
  | n + 1, h, h1, h2 => by
    show sumN g n + g n = sumN f n + f n + d
    by_cases e : i = n
    · subst e
      rw [sumN_cong (fun k hk => h1 k (by omega)), h2]
      omega
    · rw [sumN_upd (n := n) (by omega) h1 h2, h1 n (by omega)]
      omega
/-- the reference, while days go by -/
def PQ (G : Nat → Nat) (R0 R : xM) (day : Nat) (th : Nat → Nat) : Prop := R.1 1 4 = nI day ∧ (∀ c, c < G 0 → CR (R.1 1) (5 + 46 * c) (young (LG G c) (th c)) ∧ R.1 1 (5 + 46 * c + 43) = nI (G (5 + 46 * c + 43) + sumL (old (LG G c) (th c)))) ∧ (∀ c, c < G 0 → ∀ t, (t < 3 ∨ 4 ≤ t ∧ t < 7 ∨ 44 ≤ t ∧ t < 46) → R.1 1 (5 + 46 * c + t) = R0.1 1 (5 + 46 * c + t)) ∧ (∀ j, j < 4 ∨ 5 + 46 * G 0 ≤ j → R.1 1 j = R0.1 1 j) ∧ ∀ k, k ≠ 1 → R.1 k = R0.1 k
theorem PQ.step {N : Nat} {G : Nat → Nat} {R0 R : xM} {day i : Nat} {th : Nat → Nat} (h : PQ G R0 R day th) (hN : 30 ≤ N) (h0 : G 0 ≤ 8) (hi : i < G 0) (hth : th i ≤ day) (hday : day ≤ 400) (hg : ∀ c, c < 8 → GIc G c) : ∃ R1 δ, F_X10_wastes N (nI i) R = some (R1, nI δ) ∧ PQ G R0 R1 day (fun c => if c = i then day else th c) ∧ gone G (fun c => if c = i then day else th c) = gone G th + δ := by
  obtain ⟨a1, a2, a3, a4, a5⟩ := h
  have lo := LG_ok (hg i (by omega))
  have lo2 := lo.filter (fun x => !decide (x.2.2 < th i))
  obtain ⟨b1, b2⟩ := a2 i hi
  obtain ⟨R1, g1, g2, g3, g4, g5⟩ := wastes_ok (N := N) (c := i) (q := day) hN (by omega) b1 lo2 (by omega) a1
  have od := old_young (LG G i) hth
  refine ⟨_, _, g1, ⟨?_, fun c hc => ?_, fun c hc t ht => ?_, fun j hj => ?_, fun k hk => ?_⟩, ?_⟩
  · rw [xS_f (by omega), g5 4 (by omega) (by omega)]; exact a1
  · dsimp only
    by_cases e : c = i
    · subst e
      rw [if_pos rfl]
      refine ⟨⟨?_, fun j z hz => ?_⟩, ?_⟩
      · rw [xS_f (by omega)]
        rw [show young (LG G c) day = young (young (LG G c) (th c)) day from (young_young hth).symm]
        exact g2.1
      · have hj := len_some hz
        have : (young (LG G c) day).length ≤ 12 := (lo.filter _).1
        have hj : j < (young (LG G c) day).length := hj
        dsimp only
        rw [xS_f (by omega), xS_f (by omega), xS_f (by omega)]
        refine g2.2 j z ?_
        rw [show young (LG G c) day = young (young (LG G c) (th c)) day from (young_young hth).symm] at hz
        exact hz
      · rw [xS_in, g5 _ (by omega) (by omega), b2, nI_add, Nat.add_assoc]
        exact congrArg (fun z => nI (_ + z)) od
    · rw [if_neg e]
      obtain ⟨c1, c2⟩ := a2 c hc
      refine ⟨⟨?_, fun j z hz => ?_⟩, ?_⟩
      · rw [xS_f (by omega), g5 _ (by omega) (by omega)]; exact c1.1
      · have hj := len_some hz
        have hj12 : j < 12 ∨ 12 ≤ j := by omega
        have : (young (LG G c) (th c)).length ≤ 12 := ((LG_ok (hg c (by omega))).filter _).1
        have hj : j < (young (LG G c) (th c)).length := hj
        dsimp only
        rw [xS_f (by omega), xS_f (by omega), xS_f (by omega), g5 _ (by omega) (by omega), g5 _ (by omega) (by omega), g5 _ (by omega) (by omega)]
        exact c1.2 j z hz
      · rw [xS_f (by omega), g5 _ (by omega) (by omega)]; exact c2
  · rw [xS_f (by omega), g5 _ (by omega) (by omega)]; exact a3 c hc t ht
  · rw [xS_f (by omega), g5 _ (by omega) (by omega)]; exact a4 j hj
  · rw [xS_ne hk, g4 k hk]; exact a5 k hk
  · refine sumN_upd hi (fun k hk => ?_) ?_
    · dsimp only
      rw [if_neg hk]
    · dsimp only
      rw [if_pos rfl]
      exact od.symm
