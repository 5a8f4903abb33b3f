/-! the class's recursion finds it -/
theorem LSt.ch {M0 M : xM} {tol : Nat} {g : Nat → Int} {ch ch2 : Nat → Nat} (h : LSt M0 M tol g ch) (e : ∀ j, j < 8 → ch2 j = ch j) : LSt M0 M tol g ch2 := ⟨h.1, h.2.1, h.2.2.1, h.2.2.2.1, fun j hj => by rw [e j hj]; exact h.2.2.2.2 j hj⟩
def RSp (M0 : xM) (G : Nat → Nat) (tol : Nat) (F : Int32 → Int32 → xM → Option xR) (r c : Nat) : Prop := ∀ (left : Nat) (g : Nat → Int) (M : xM) (ch : Nat → Nat), left ≤ 6 → GB g left → LSt M0 M tol g ch → (∀ j, c ≤ j → ch j = 0) → (fw G tol r c left g = none → ∃ M1, F (nI c) (nI left) M = some (M1, 0) ∧ LSt M0 M1 tol g ch) ∧ ∀ w, fw G tol r c left g = some w → ∃ M1 g2, F (nI c) (nI left) M = some (M1, 1) ∧ LSt M0 M1 tol g2 (fun j => if j < c then ch j else w j)
def rF (N : Nat) (F : Int32 → Int32 → xM → Option xR) (Lp : Nat → Nat → Int32 → Int32 → Int32 → xM → Option xR) : Prop := ∀ (v2 v3 : Int32) (M : xM), F v2 v3 M = xbd (F_X8_isInReach N v3 M) (fun (r1 : xR) => (if r1.2 = 0 then some (r1.1, 0) else (if v3 = 0 then some (r1.1, 1) else (if v2 < (r1.1.1 0 4) then xck (xin v2 8) (xbd (F_X2_stepsInside N (0 + 5 + 5 * v2.toNatClampNeg) r1.1) (fun (r6 : xR) => xl (if r6.2 < v3 then r6.2 else v3) (fun (y7 : Int32) => Lp (0 + 5 + 5 * v2.toNatClampNeg) N v2 v3 y7 r6.1))) else some (r1.1, 0)))))
def rL (N : Nat) (F2 : Int32 → Int32 → xM → Option xR) (Lp : Nat → Nat → Int32 → Int32 → Int32 → xM → Option xR) : Prop := ∀ (k4 n : Nat) (v2 v3 v5 : Int32) (M : xM), Lp k4 (n + 1) v2 v3 v5 M = (if v5 < 0 then some (M, 0) else xbd (F_X8_choose N k4 v2 v5 M) (fun (r2 : xR) => xbd (F2 (v2 + 1) (v3 - v5) r2.1) (fun (r3 : xR) => (if r3.2 = 0 then xl (v5 + (-1)) (fun (y5 : Int32) => Lp k4 n v2 v3 y5 r3.1) else some (r3.1, 1)))))
section
variable {N tol : Nat} {M0 : xM} {r0 : Nat → Int32} {G : Nat → Nat} {B : Nat → Nat → Nat → Bool} {F F2 : Int32 → Int32 → xM → Option xR} {Lp : Nat → Nat → Int32 → Int32 → Int32 → xM → Option xR}
theorem vals9 (hg : GI G B) : ∀ c, c < 8 → ∀ a, a < 3 → G (5 + 46 * c + a) ≤ 9 := fun c hc a ha => (hg.2.1 c hc).2.1 a ha
/-- before the loop -/
theorem r_pre {r c : Nat} (hN : 20 ≤ N) (ht : tol ≤ 99) (hd : DS M0 0 r0 G B) (hF : rF N F Lp) (hc : c + r ≤ 8) {left : Nat} {g : Nat → Int} {M : xM} {ch : Nat → Nat} (hl : left ≤ 6) (h : LSt M0 M tol g ch) (hz : ∀ j, c ≤ j → ch j = 0) (hgo : inR tol left g → ¬ left = 0 → (fw G tol r c left g = none → ∃ M1, F (nI c) (nI left) M = some (M1, 0) ∧ LSt M0 M1 tol g ch) ∧ ∀ w, fw G tol r c left g = some w → ∃ M1 g2, F (nI c) (nI left) M = some (M1, 1) ∧ LSt M0 M1 tol g2 (fun j => if j < c then ch j else w j)) : (fw G tol r c left g = none → ∃ M1, F (nI c) (nI left) M = some (M1, 0) ∧ LSt M0 M1 tol g ch) ∧ ∀ w, fw G tol r c left g = some w → ∃ M1 g2, F (nI c) (nI left) M = some (M1, 1) ∧ LSt M0 M1 tol g2 (fun j => if j < c then ch j else w j) := by
  have hv := vals9 hd.2.2.2.2
  have hr := reach_ok (N := N) (by omega) ht hl h
  by_cases hin : inR tol left g
  · by_cases h0 : left = 0
    · subst h0
      have ht0 : tolB tol g = true := tolB_iff.mpr (fun a ha => by have := hin a ha; omega)
      have e : fw G tol r c 0 g = some (fun _ => 0) := by rw [fw_zero, if_pos ht0]
      constructor
      · intro q
        rw [e] at q
        cases q
      · intro w hw
        rw [e] at hw
        obtain rfl := Option.some.inj hw
        refine ⟨M, g, ?_, h.ch (fun j hj => ?_)⟩
        · rw [hF, hr.1 hin, xbd_some, if_neg (show ¬ (M, (1 : Int32)).2 = 0 from by show ¬ (1 : Int32) = 0; decide), if_pos (show nI 0 = (0 : Int32) from rfl)]
        · dsimp only
          by_cases q : j < c
          · rw [if_pos q]
          · rw [if_neg q, hz j (by omega)]
    · exact hgo hin h0
  · have e : fw G tol r c left g = none := by
      cases q : fw G tol r c left g with
      | none => rfl
      | some w => exact absurd (fw_reach hv hc q) hin
    constructor
    · intro _
      exact ⟨M, by rw [hF, hr.2 hin, xbd_some, if_pos (show (M, (0 : Int32)).2 = 0 from rfl)], h⟩
    · intro w hw
      rw [e] at hw
      cases hw
theorem LSt.n4 {M : xM} {g : Nat → Int} {ch : Nat → Nat} (hd : DS M0 0 r0 G B) (h : LSt M0 M tol g ch) : M.1 0 4 = nI (G 0) := by
  rw [h.1 0 (by omega) (by omega)]
  exact hd.n0.1.1
theorem LSt.ds {M : xM} {g : Nat → Int} {ch : Nat → Nat} (hd : DS M0 0 r0 G B) (h : LSt M0 M tol g ch) : DS M 0 r0 G B := hd.cong (fun k hk => h.1 _ (by omega) (by omega)) (fun k hk => h.2.1 _ (by omega)) (fun _ _ => rfl)
theorem r_at (hN : 20 ≤ N) (ht : tol ≤ 99) (hd : DS M0 0 r0 G B) (hF : rF N F Lp) : RSp M0 G tol F 0 (G 0) := by
  intro left g M ch hl hb h hz
  have hg0 : G 0 ≤ 8 := hd.2.2.2.2.1.1
  refine r_pre (r := 0) (c := G 0) hN ht hd hF (by omega) hl h hz (fun hin h0 => ?_)
  have e : fw G tol 0 (G 0) left g = none := by
    show (if left = 0 then _ else none) = none
    rw [if_neg h0]
  constructor
  · intro _
    refine ⟨M, ?_, h⟩
    rw [hF, (reach_ok (N := N) (by omega) ht hl h).1 hin, xbd_some, if_neg (show ¬ (M, (1 : Int32)).2 = 0 from by show ¬ (1 : Int32) = 0; decide), if_neg (nI_ne0 (by omega) (by omega))]
    dsimp only
    rw [h.n4 hd, if_neg (nI_nlt (Nat.le_refl _) (by omega))]
  · intro w hw
    rw [e] at hw
    cases hw
theorem r_below {r c : Nat} (hN : 20 ≤ N) (ht : tol ≤ 99) (hd : DS M0 0 r0 G B) (hF : rF N F Lp) (hL : rL N F2 Lp) (hc : c < G 0) (hr : c + 1 + r ≤ 8) (ih : RSp M0 G tol F2 r (c + 1)) : RSp M0 G tol F (r + 1) c := by
  intro left g M ch hl hb h hz
  have hg0 : G 0 ≤ 8 := hd.2.2.2.2.1.1
  have hc8 : c < 8 := by omega
  have hv := vals9 hd.2.2.2.2
  refine r_pre (r := r + 1) (c := c) hN ht hd hF (by omega) hl h hz (fun hin h0 => ?_)
  have hins := inC_le hd.2.2.2.2 hc8
  obtain ⟨m, hm⟩ : ∃ m, m = (if inC G c < left then inC G c else left) := ⟨_, rfl⟩
  have hml : m ≤ left ∧ m ≤ inC G c ∧ (m = left ∨ m = inC G c) := by
    rw [hm]
    split <;> omega
  -- the loop
  have loop : ∀ n t prev (M2 : xM), t ≤ m → t + 1 < n → prev ≤ 6 → LSt M0 M2 tol (gsub G g c prev) (updN ch c prev) → (down (fwP G tol r c left g) t = none → ∃ M1, Lp (5 + 5 * c) n (nI c) (nI left) (nI t) M2 = some (M1, 0) ∧ LSt M0 M1 tol g ch) ∧ ∀ w, down (fwP G tol r c left g) t = some w → ∃ M1 g2, Lp (5 + 5 * c) n (nI c) (nI left) (nI t) M2 = some (M1, 1) ∧ LSt M0 M1 tol g2 (fun j => if j < c then ch j else w j) := by
    intro n
    induction n with
    | zero => intro t prev M2 a1 a2; omega
    | succ n ihn =>
      intro t prev M2 a1 a2 a3 h2
      have hgb : ∀ a, a < 3 → -6000000000 ≤ gsub G g c prev a ∧ gsub G g c prev a ≤ 6000000000 := fun a ha => by
        have q1 := hb a ha
        have q2 := mul9 (t := prev) (hv c hc8 a ha)
        have q3 : gsub G g c prev a = g a - (G (5 + 46 * c + a) : Int) * (prev : Int) := rfl
        omega
      obtain ⟨M3, c1, c2⟩ := choose_ok (N := N) (t := t) (by omega) hd hc8 (by omega) a3 hgb h2 updN_s
      have c2 : LSt M0 M3 tol (gsub G g c t) (updN ch c t) := c2.ch (fun j hj => by
        by_cases q : j = c
        · subst q; rw [updN_s, updN_s]
        · rw [updN_n q, updN_n q, updN_n q])
      have hb3 : GB (gsub G g c t) (left - t) := fun a ha => by
        have q1 := hb a ha
        have q2 := mul9 (t := t) (hv c hc8 a ha)
        have q3 : gsub G g c t a = g a - (G (5 + 46 * c + a) : Int) * (t : Int) := rfl
        omega
      have next := ih (left - t) (gsub G g c t) M3 (updN ch c t) (by omega) hb3 c2 (fun j hj => by rw [updN_n (by omega)]; exact hz j (by omega))
      have eL : ∀ {M4 : xM} {b : Int32}, F2 (nI (c + 1)) (nI (left - t)) M3 = some (M4, b) → Lp (5 + 5 * c) (n + 1) (nI c) (nI left) (nI t) M2 = (if b = 0 then Lp (5 + 5 * c) n (nI c) (nI left) (nI t - 1) M4 else some (M4, 1)) := fun {M4 b} hb4 => by
        rw [hL, if_neg (nI_pos (by omega)), c1, xbd_some]
        dsimp only
        rw [nI_1, pk_sub (show t ≤ left by omega), hb4, xbd_some]
        dsimp only
        rw [i_m1, xl_v]
      cases hf : fw G tol r (c + 1) (left - t) (gsub G g c t) with
      | none =>
        obtain ⟨M4, d1, d2⟩ := next.1 hf
        rw [eL d1, if_pos rfl]
        have hp : fwP G tol r c left g t = none := fwP_none (fun _ => hf)
        cases t with
        | zero =>
          have e0 : Lp (5 + 5 * c) n (nI c) (nI left) (nI 0 - 1) M4 = some (M4, 0) := by
            obtain ⟨n2, rfl⟩ : ∃ n2, n = n2 + 1 := ⟨n - 1, by omega⟩
            rw [hL, if_pos (show nI 0 - 1 < (0 : Int32) from by decide)]
          have e1 : down (fwP G tol r c left g) 0 = none := hp
          rw [e0]
          constructor
          · intro _
            refine ⟨M4, rfl, ?_⟩
            rw [gsub_0] at d2
            exact d2.ch (fun j hj => by
              by_cases q : j = c
              · subst q; rw [updN_s]; exact hz j (Nat.le_refl _)
              · rw [updN_n q])
          · intro w hw
            rw [e1] at hw
            cases hw
        | succ t =>
          rw [nI_pred, down_miss hp]
          exact ihn t (t + 1) M4 (by omega) (by omega) (by omega) d2
      | some w2 =>
        obtain ⟨M4, g4, d1, d2⟩ := next.2 w2 hf
        rw [eL d1, if_neg (show ¬ (1 : Int32) = 0 from by decide)]
        have hp : fwP G tol r c left g t = some (updN w2 c t) := fwP_some (by omega) hf
        rw [down_hit hp]
        constructor
        · intro q; cases q
        · intro w hw
          obtain rfl := Option.some.inj hw
          refine ⟨M4, g4, rfl, d2.ch (fun j hj => ?_)⟩
          by_cases q1 : j < c
          · rw [if_pos q1, if_pos (by omega), updN_n (by omega)]
          · by_cases q2 : j = c
            · subst q2
              rw [if_neg q1, if_pos (by omega), updN_s, updN_s]
            · rw [if_neg q1, if_neg (by omega), updN_n q2]
  have hgs : gsub G g c 0 = g := gsub_0
  have h' : LSt M0 M tol (gsub G g c 0) (updN ch c 0) := by
    rw [hgs]
    exact h.ch (fun j hj => by
      by_cases q : j = c
      · subst q; rw [updN_s]; exact (hz j (Nat.le_refl _)).symm
      · rw [updN_n q])
  have ecut : fw G tol (r + 1) c left g = down (fwP G tol r c left g) m := by
    rw [fw_s]
    exact down_cut hml.1 (fun s s1 s2 => fwP_none (fun q => by omega))
  have eF : F (nI c) (nI left) M = Lp (5 + 5 * c) N (nI c) (nI left) (nI m) M := by
    rw [hF, (reach_ok (N := N) (by omega) ht hl h).1 hin, xbd_some, if_neg (show ¬ (M, (1 : Int32)).2 = 0 from by show ¬ (1 : Int32) = 0; decide), if_neg (nI_ne0 (by omega) (by omega))]
    dsimp only
    rw [h.n4 hd, if_pos (nI_lt hc (by omega)), ck_nI hc8 (by decide), nI_clamp (by omega), (h.ds hd).steps (c := c) (by omega) hc8 (p := 0 + 5 + 5 * c) (by omega), xbd_some, show (0 : Nat) + 5 + 5 * c = 5 + 5 * c by omega]
    dsimp only
    rw [show (if nI (inC G c) < nI left then nI (inC G c) else nI left) = nI m from by
      rw [hm]
      by_cases q : inC G c < left
      · rw [if_pos q, if_pos (nI_lt q (by omega))]
      · rw [if_neg q, if_neg (nI_nlt (by omega) (by omega))], xl_v]
  rw [ecut, eF]
  exact loop N m 0 M (Nat.le_refl _) (by omega) (by omega) h'
theorem rA0 (hN : 20 ≤ N) (ht : tol ≤ 99) (hd : DS M0 0 r0 G B) : ∀ c, c + 0 = 8 → c ≤ G 0 → RSp M0 G tol (F_X8_reaches0 N 0) (G 0 - c) c := by
  intro c h1 h2
  have hg0 : G 0 ≤ 8 := hd.2.2.2.2.1.1
  have e : c = G 0 := by omega
  subst e
  rw [Nat.sub_self]
  exact r_at hN ht hd (Lp := fun k4 => L_X8_reaches0_45 N 0 k4) (fun _ _ _ => rfl)
theorem rA1 (hN : 20 ≤ N) (ht : tol ≤ 99) (hd : DS M0 0 r0 G B) : ∀ c, c + 1 = 8 → c ≤ G 0 → RSp M0 G tol (F_X8_reaches1 N 0) (G 0 - c) c := by
  intro c h1 h2
  have hg0 : G 0 ≤ 8 := hd.2.2.2.2.1.1
  by_cases e : c = G 0
  · subst e
    rw [Nat.sub_self]
    exact r_at hN ht hd (Lp := fun k4 => L_X8_reaches1_45 N 0 k4) (fun _ _ _ => rfl)
  · have := rA0 hN ht hd (c + 1) (by omega) (by omega)
    rw [show G 0 - c = G 0 - (c + 1) + 1 by omega]
    exact r_below hN ht hd (Lp := fun k4 => L_X8_reaches1_45 N 0 k4) (fun _ _ _ => rfl) (fun _ _ _ _ _ _ => rfl) (by omega) (by omega) this
theorem rA2 (hN : 20 ≤ N) (ht : tol ≤ 99) (hd : DS M0 0 r0 G B) : ∀ c, c + 2 = 8 → c ≤ G 0 → RSp M0 G tol (F_X8_reaches2 N 0) (G 0 - c) c := by
  intro c h1 h2
  have hg0 : G 0 ≤ 8 := hd.2.2.2.2.1.1
  by_cases e : c = G 0
  · subst e
    rw [Nat.sub_self]
    exact r_at hN ht hd (Lp := fun k4 => L_X8_reaches2_45 N 0 k4) (fun _ _ _ => rfl)
  · have := rA1 hN ht hd (c + 1) (by omega) (by omega)
    rw [show G 0 - c = G 0 - (c + 1) + 1 by omega]
    exact r_below hN ht hd (Lp := fun k4 => L_X8_reaches2_45 N 0 k4) (fun _ _ _ => rfl) (fun _ _ _ _ _ _ => rfl) (by omega) (by omega) this
theorem rA3 (hN : 20 ≤ N) (ht : tol ≤ 99) (hd : DS M0 0 r0 G B) : ∀ c, c + 3 = 8 → c ≤ G 0 → RSp M0 G tol (F_X8_reaches3 N 0) (G 0 - c) c := by
  intro c h1 h2
  have hg0 : G 0 ≤ 8 := hd.2.2.2.2.1.1
  by_cases e : c = G 0
  · subst e
    rw [Nat.sub_self]
    exact r_at hN ht hd (Lp := fun k4 => L_X8_reaches3_45 N 0 k4) (fun _ _ _ => rfl)
  · have := rA2 hN ht hd (c + 1) (by omega) (by omega)
    rw [show G 0 - c = G 0 - (c + 1) + 1 by omega]
    exact r_below hN ht hd (Lp := fun k4 => L_X8_reaches3_45 N 0 k4) (fun _ _ _ => rfl) (fun _ _ _ _ _ _ => rfl) (by omega) (by omega) this
theorem rA4 (hN : 20 ≤ N) (ht : tol ≤ 99) (hd : DS M0 0 r0 G B) : ∀ c, c + 4 = 8 → c ≤ G 0 → RSp M0 G tol (F_X8_reaches4 N 0) (G 0 - c) c := by
  intro c h1 h2
  have hg0 : G 0 ≤ 8 := hd.2.2.2.2.1.1
  by_cases e : c = G 0
  · subst e
    rw [Nat.sub_self]
    exact r_at hN ht hd (Lp := fun k4 => L_X8_reaches4_45 N 0 k4) (fun _ _ _ => rfl)
  · have := rA3 hN ht hd (c + 1) (by omega) (by omega)
    rw [show G 0 - c = G 0 - (c + 1) + 1 by omega]
    exact r_below hN ht hd (Lp := fun k4 => L_X8_reaches4_45 N 0 k4) (fun _ _ _ => rfl) (fun _ _ _ _ _ _ => rfl) (by omega) (by omega) this
theorem rA5 (hN : 20 ≤ N) (ht : tol ≤ 99) (hd : DS M0 0 r0 G B) : ∀ c, c + 5 = 8 → c ≤ G 0 → RSp M0 G tol (F_X8_reaches5 N 0) (G 0 - c) c := by
  intro c h1 h2
  have hg0 : G 0 ≤ 8 := hd.2.2.2.2.1.1
  by_cases e : c = G 0
  · subst e
    rw [Nat.sub_self]
    exact r_at hN ht hd (Lp := fun k4 => L_X8_reaches5_45 N 0 k4) (fun _ _ _ => rfl)
  · have := rA4 hN ht hd (c + 1) (by omega) (by omega)
    rw [show G 0 - c = G 0 - (c + 1) + 1 by omega]
    exact r_below hN ht hd (Lp := fun k4 => L_X8_reaches5_45 N 0 k4) (fun _ _ _ => rfl) (fun _ _ _ _ _ _ => rfl) (by omega) (by omega) this
theorem rA6 (hN : 20 ≤ N) (ht : tol ≤ 99) (hd : DS M0 0 r0 G B) : ∀ c, c + 6 = 8 → c ≤ G 0 → RSp M0 G tol (F_X8_reaches6 N 0) (G 0 - c) c := by
  intro c h1 h2
  have hg0 : G 0 ≤ 8 := hd.2.2.2.2.1.1
  by_cases e : c = G 0
  · subst e
    rw [Nat.sub_self]
    exact r_at hN ht hd (Lp := fun k4 => L_X8_reaches6_45 N 0 k4) (fun _ _ _ => rfl)
  · have := rA5 hN ht hd (c + 1) (by omega) (by omega)
    rw [show G 0 - c = G 0 - (c + 1) + 1 by omega]
    exact r_below hN ht hd (Lp := fun k4 => L_X8_reaches6_45 N 0 k4) (fun _ _ _ => rfl) (fun _ _ _ _ _ _ => rfl) (by omega) (by omega) this
theorem rA7 (hN : 20 ≤ N) (ht : tol ≤ 99) (hd : DS M0 0 r0 G B) : ∀ c, c + 7 = 8 → c ≤ G 0 → RSp M0 G tol (F_X8_reaches7 N 0) (G 0 - c) c := by
  intro c h1 h2
  have hg0 : G 0 ≤ 8 := hd.2.2.2.2.1.1
  by_cases e : c = G 0
  · subst e
    rw [Nat.sub_self]
    exact r_at hN ht hd (Lp := fun k4 => L_X8_reaches7_45 N 0 k4) (fun _ _ _ => rfl)
  · have := rA6 hN ht hd (c + 1) (by omega) (by omega)
    rw [show G 0 - c = G 0 - (c + 1) + 1 by omega]
    exact r_below hN ht hd (Lp := fun k4 => L_X8_reaches7_45 N 0 k4) (fun _ _ _ => rfl) (fun _ _ _ _ _ _ => rfl) (by omega) (by omega) this
theorem rA8 (hN : 20 ≤ N) (ht : tol ≤ 99) (hd : DS M0 0 r0 G B) : ∀ c, c + 8 = 8 → c ≤ G 0 → RSp M0 G tol (F_X8_reaches8 N 0) (G 0 - c) c := by
  intro c h1 h2
  have hg0 : G 0 ≤ 8 := hd.2.2.2.2.1.1
  by_cases e : c = G 0
  · subst e
    rw [Nat.sub_self]
    exact r_at hN ht hd (Lp := fun k4 => L_X8_reaches8_45 N 0 k4) (fun _ _ _ => rfl)
  · have := rA7 hN ht hd (c + 1) (by omega) (by omega)
    rw [show G 0 - c = G 0 - (c + 1) + 1 by omega]
    exact r_below hN ht hd (Lp := fun k4 => L_X8_reaches8_45 N 0 k4) (fun _ _ _ => rfl) (fun _ _ _ _ _ _ => rfl) (by omega) (by omega) this
end
