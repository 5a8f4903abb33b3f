/-! least -/
section
variable {N tol k : Nat} {M R0 : xM} {G : Nat → Nat} {B : Nat → Nat → Nat → Bool} {v2 v3 v4 : Int32}
theorem allSix {n : Nat} (hn : n ≤ 6) (c : Nat) : ∀ j, j < 8 → updN (fun _ => 0) c n j ≤ 6 := fun j _ => by
  by_cases e : j = c
  · rw [e, updN_s]; exact hn
  · rw [updN_n e]; exact Nat.zero_le _
/-- one number of steps -/
theorem steps_ok (hN : 3000 ≤ N) (ht : tol ≤ 99) (hd : DS M 0 (R0.1 1) G B) (hk : k < G 3) (h8 : R0.1 8 0 = v2 ∧ R0.1 8 1 = v3 ∧ R0.1 8 2 = v4) {K : Int32 → Int32 → Int32 → xM → Option xR} {n : Nat} (hn : n ≤ 6) (hm : n = 0 ∨ 0 < G 0) {R : xM} (hR : ∀ p, p ≠ 7 → R.1 p = R0.1 p) : (∀ w, fw G tol (G 0) 0 n (gap0 G k v2 v3 v4) = some w → ∃ R1, L_X10_finds_30 N K (nI k) (nI tol) (nI n) R = some (R1, nI n) ∧ RW R0 R1 w) ∧ (fw G tol (G 0) 0 n (gap0 G k v2 v3 v4) = none → ∃ R1, L_X10_finds_30 N K (nI k) (nI tol) (nI n) R = K (nI k) (nI tol) (nI (n + 1)) R1 ∧ ∀ p, p ≠ 7 → R1.1 p = R0.1 p) := by
  have hg0 : G 0 ≤ 8 := hd.2.2.2.2.1.1
  -- cleared
  have clr : ∀ f i (R : xM) (w : Nat → Nat), i ≤ 8 → 8 < f + i → RW R0 R w → (∀ j, j < i → w j = 0) → ∃ R1, L_X10_finds_33 N K f (nI k) (nI tol) (nI n) (nI i) R = L_X10_finds_64 N K N (nI k) (nI tol) (nI n) 1 R1 ∧ RW R0 R1 (updN (fun _ => 0) 0 n) := by
    intro f
    induction f with
    | zero => intro i R w a1 a2; omega
    | succ f ih =>
      intro i R w a1 a2 h hz
      rw [L_X10_finds_33]
      by_cases hi : i = 8
      · subst hi
        rw [if_pos (show (8 : Int32) ≤ nI 8 from by decide), xl_v]
        refine ⟨_, rfl, (h.put 0 n).cong (fun j hj => ?_)⟩
        by_cases q : j = 0
        · rw [q, updN_s, updN_s]
        · rw [updN_n q, updN_n q]
          exact (hz j hj).symm
      · rw [if_neg (show ¬ (8 : Int32) ≤ nI i from nI_ge (b := 8) (by omega) (by omega)), ck_nI (by omega) (by decide), nI_clamp (by omega), xl_v, nI_1, xl_v]
        refine ih (i + 1) _ (updN w i 0) (by omega) (by omega) (h.put i 0) (fun j hj => ?_)
        by_cases q : j = i
        · rw [q, updN_s]
        · rw [updN_n q]; exact hz j (by omega)
  obtain ⟨R1, c1, c2⟩ := clr N 0 R (GR (R.1 7)) (by omega) (by omega) ⟨hR, fun j _ => (nI_GR (R.1 7) j).symm⟩ (fun j hj => absurd hj (Nat.not_lt_zero _))
  have e30 : L_X10_finds_30 N K (nI k) (nI tol) (nI n) R = L_X10_finds_64 N K N (nI k) (nI tol) (nI n) 1 R1 := c1
  rw [e30]
  have e0 : ∀ f (R : xM), 0 < f → L_X10_finds_64 N K f (nI k) (nI tol) (nI n) 0 R = K (nI k) (nI tol) (nI (n + 1)) R := fun f R hf => by
    obtain ⟨f, rfl⟩ : ∃ f', f = f' + 1 := ⟨f - 1, by omega⟩
    rw [L_X10_finds_64, if_pos rfl, nI_1, xl_v]
  by_cases hm0 : G 0 = 0
  · -- no colorants
    have hn0 : n = 0 := by omega
    subst hn0
    obtain ⟨f, hf⟩ : ∃ f, N = f + 1 := ⟨N - 1, by omega⟩
    have hP := reaches_ok (N := N) (by omega) ht hd hk h8 c2 (allSix hn 0)
    have hask : PW G tol (gap0 G k v2 v3 v4) (updN (fun _ => 0) 0 0) ↔ tolB tol (gap0 G k v2 v3 v4) = true := by
      rw [tolB_iff]
      have es : ∀ a, (SW G (updN (fun _ => 0) 0 0) a : Int) = 0 := fun a => by
        unfold SW
        rw [hm0]
        rfl
      constructor
      · intro ⟨p1, p2⟩ a ha
        have := p1 a ha
        rw [es a] at this
        omega
      · intro p
        refine ⟨fun a ha => ?_, fun j hj => by omega⟩
        have := p a ha
        rw [es a]
        omega
    have efw : fw G tol (G 0) 0 0 (gap0 G k v2 v3 v4) = if tolB tol (gap0 G k v2 v3 v4) = true then some (fun _ => 0) else none := fw_zero
    have e64 : ∀ b : Int32, F_X10_reaches N (nI k) (nI tol) R1 = some (R1, b) → L_X10_finds_64 N K N (nI k) (nI tol) (nI 0) 1 R1 = (if b = 0 then xbd (F_X10_nextWay N R1) (fun (r5 : xR) => xl (r5.2) (fun (y6 : Int32) => L_X10_finds_64 N K f (nI k) (nI tol) (nI 0) y6 r5.1)) else some (R1, nI 0)) := fun b hb => by
      rw [show L_X10_finds_64 N K N (nI k) (nI tol) (nI 0) 1 R1 = L_X10_finds_64 N K (f + 1) (nI k) (nI tol) (nI 0) 1 R1 from by rw [← hf], L_X10_finds_64, if_neg (show ¬ (1 : Int32) = 0 from by decide), hb, xbd_some]
    have r0 : R1.1 1 0 = nI (G 0) := by rw [c2.1 1 (by omega)]; exact hd.n0.1.2
    constructor
    · intro w hw
      rw [efw] at hw
      by_cases q : tolB tol (gap0 G k v2 v3 v4) = true
      · rw [if_pos q] at hw
        obtain rfl := Option.some.inj hw
        refine ⟨R1, ?_, c2.cong (fun j hj => ?_)⟩
        · rw [e64 1 (hP.1 (hask.mpr q)), if_neg (show ¬ (1 : Int32) = 0 from by decide)]
        · by_cases q1 : j = 0
          · rw [q1, updN_s]
          · rw [updN_n q1]
      · rw [if_neg q] at hw; cases hw
    · intro hw
      rw [efw] at hw
      by_cases q : tolB tol (gap0 G k v2 v3 v4) = true
      · rw [if_pos q] at hw; cases hw
      · refine ⟨R1, ?_, c2.1⟩
        rw [e64 0 (hP.2 (fun p => q (hask.mp p))), if_pos rfl, next_0 (N := N) (by omega) r0 hg0 c2 (fun j hj => by omega), xbd_some, xl_v]
        exact e0 f R1 (by omega)
  · have hW := WW_le (G 0 - 1) (by omega) n (by omega)
    have hE := enum (N := N) (K := K) (x3 := nI n) (by omega) ht hd hk h8 (G 0 - 1) 0 (fun _ => 0) n N R1 true (by omega) (fun _ _ => rfl) (fun _ => Nat.zero_le _) hn (by omega) ⟨fun _ j hj => absurd hj (Nat.not_lt_zero _), fun _ => rfl⟩ c2
    have eg : gpre G (gap0 G k v2 v3 v4) (fun _ => 0) = gap0 G k v2 v3 v4 := by
      funext a
      show gap0 G k v2 v3 v4 a - (SW G (fun _ => 0) a : Int) = gap0 G k v2 v3 v4 a
      have : SW G (fun _ => 0) a = 0 := by
        unfold SW
        rw [sumN_cong (g := fun _ => 0) (fun j _ => Nat.mul_zero _), sumN_0]
      rw [this]
      omega
    rw [eg, show G 0 - 1 + 1 = G 0 by omega, if_pos rfl] at hE
    constructor
    · intro w hw
      obtain ⟨R2, z1, z2⟩ := hE.1 w hw
      exact ⟨R2, z1, z2.cong (fun j hj => (if_neg (Nat.not_lt_zero _)).symm)⟩
    · intro hw
      obtain ⟨R2, z1, z2⟩ := hE.2 hw
      have r0 : R2.1 1 0 = nI (G 0) := by rw [z2.1 1 (by omega)]; exact hd.n0.1.2
      refine ⟨R2, ?_, z2.1⟩
      rw [z1, next_0 (N := N) (by omega) r0 hg0 z2 (fun j hj => by rw [updN_n (by omega)]), xbd_some, xl_v]
      exact e0 _ R2 (by omega)
theorem finds_ok (hN : 3000 ≤ N) (ht : tol ≤ 99) (hd : DS M 0 (R0.1 1) G B) (hk : k < G 3) (h8 : R0.1 8 0 = v2 ∧ R0.1 8 1 = v3 ∧ R0.1 8 2 = v4) : ∃ R1, (∀ p, p ≠ 7 → R1.1 p = R0.1 p) ∧ ((∃ n w, n ≤ room G k ∧ n ≤ 6 ∧ (∀ i, i < n → fw G tol (G 0) 0 i (gap0 G k v2 v3 v4) = none) ∧ fw G tol (G 0) 0 n (gap0 G k v2 v3 v4) = some w ∧ F_X10_finds N (nI k) (nI tol) R0 = some (R1, nI n) ∧ ∀ j, j < 8 → R1.1 7 j = nI (w j)) ∨ ((∀ i, i ≤ room G k → i ≤ 6 → fw G tol (G 0) 0 i (gap0 G k v2 v3 v4) = none) ∧ F_X10_finds N (nI k) (nI tol) R0 = some (R1, -1))) := by
  have hg := hd.2.2.2.2
  have hg0 : G 0 ≤ 8 := hg.1.1
  have hk20 : k < 20 := by have := hg.1; omega
  have hrm : room G k ≤ 200 := by
    obtain ⟨q1, q2, q3, q4⟩ := (hg.2.2.2.2 k hk20).1 hk
    have hb6 : G (579 + 44 * k + 1) < 6 := by have := hg.1; omega
    have := (hg.2.2.1 _ hb6).2.1
    unfold room
    omega
  have loop : ∀ f i (R : xM), i ≤ 7 → 7 < f + i → (∀ p, p ≠ 7 → R.1 p = R0.1 p) → (∀ j, j < i → fw G tol (G 0) 0 j (gap0 G k v2 v3 v4) = none) → ∃ R1, (∀ p, p ≠ 7 → R1.1 p = R0.1 p) ∧ ((∃ n w, n ≤ room G k ∧ n ≤ 6 ∧ (∀ i, i < n → fw G tol (G 0) 0 i (gap0 G k v2 v3 v4) = none) ∧ fw G tol (G 0) 0 n (gap0 G k v2 v3 v4) = some w ∧ L_X10_finds_2 N f (nI k) (nI tol) (nI i) R = some (R1, nI n) ∧ ∀ j, j < 8 → R1.1 7 j = nI (w j)) ∨ ((∀ i, i ≤ room G k → i ≤ 6 → fw G tol (G 0) 0 i (gap0 G k v2 v3 v4) = none) ∧ L_X10_finds_2 N f (nI k) (nI tol) (nI i) R = some (R1, -1))) := by
    intro f
    induction f with
    | zero => intro i R a1 a2; omega
    | succ f ih =>
      intro i R a1 a2 h hz
      have hdR : DS M 0 (R.1 1) G B := by rw [h 1 (by omega)]; exact hd
      have r0 : R.1 1 (0 : Int32).toNatClampNeg = nI (G 0) := hdR.n0.1.2
      rw [L_X10_finds_2]
      by_cases h7 : i = 7
      · rw [if_pos (show (6 : Int32) < nI i from nI_lt (a := 6) (by omega) (by omega))]
        exact ⟨R, h, Or.inr ⟨fun j j1 j2 => hz j (by omega), rfl⟩⟩
      · rw [if_neg (show ¬ (6 : Int32) < nI i from nI_nlt (a := 6) (by omega) (by omega)), roomIn_ok (by omega) hdR hk, xbd_some]
        dsimp only
        by_cases hr : room G k < i
        · rw [if_pos (nI_lt hr (by omega))]
          exact ⟨R, h, Or.inr ⟨fun j j1 j2 => hz j (by omega), rfl⟩⟩
        · rw [if_neg (nI_nlt (by omega) (by omega)), r0]
          have go : (i = 0 ∨ 0 < G 0) → ∃ R1, (∀ p, p ≠ 7 → R1.1 p = R0.1 p) ∧ ((∃ n w, n ≤ room G k ∧ n ≤ 6 ∧ (∀ i, i < n → fw G tol (G 0) 0 i (gap0 G k v2 v3 v4) = none) ∧ fw G tol (G 0) 0 n (gap0 G k v2 v3 v4) = some w ∧ L_X10_finds_30 N (L_X10_finds_2 N f) (nI k) (nI tol) (nI i) R = some (R1, nI n) ∧ ∀ j, j < 8 → R1.1 7 j = nI (w j)) ∨ ((∀ i, i ≤ room G k → i ≤ 6 → fw G tol (G 0) 0 i (gap0 G k v2 v3 v4) = none) ∧ L_X10_finds_30 N (L_X10_finds_2 N f) (nI k) (nI tol) (nI i) R = some (R1, -1))) := fun hi => by
            obtain ⟨s1, s2⟩ := steps_ok (N := N) (K := L_X10_finds_2 N f) hN ht hd hk h8 (n := i) (by omega) hi h
            cases hq : fw G tol (G 0) 0 i (gap0 G k v2 v3 v4) with
            | some w =>
              obtain ⟨R1, z1, z2⟩ := s1 w hq
              exact ⟨R1, z2.1, Or.inl ⟨i, w, by omega, by omega, hz, hq, z1, z2.2⟩⟩
            | none =>
              obtain ⟨R1, z1, z2⟩ := s2 hq
              obtain ⟨R2, y1, y2⟩ := ih (i + 1) R1 (by omega) (by omega) z2 (fun j hj => by
                by_cases e : j = i
                · rw [e]; exact hq
                · exact hz j (by omega))
              refine ⟨R2, y1, ?_⟩
              rw [z1]
              exact y2
          by_cases hi0 : i = 0
          · rw [if_pos (show nI i = (0 : Int32) from by rw [hi0]; rfl)]
            exact go (Or.inl hi0)
          · rw [if_neg (nI_ne0 (by omega) (by omega))]
            by_cases hm : G 0 = 0
            · rw [if_pos (show nI (G 0) ≤ (0 : Int32) from by rw [hm]; decide)]
              refine ⟨R, h, Or.inr ⟨fun j j1 j2 => ?_, rfl⟩⟩
              by_cases e : j < i
              · exact hz j e
              · rw [hm]
                show (if j = 0 then _ else none) = none
                rw [if_neg (by omega)]
            · rw [if_neg (nI_nle (by omega) (by omega))]
              exact go (Or.inr (by omega))
  exact loop N 0 R0 (by omega) (by omega) (fun _ _ => rfl) (fun j hj => absurd hj (Nat.not_lt_zero _))
end
theorem o_25 {N : Nat} (hN : 12000 ≤ N) {v1 v2 v3 v4 v5 v6 : Int32} {M R : xM} (h : Rel M R) : ∃ q, zOp_25 N v1 v2 v3 v4 v5 v6 M R = some q ∧ Rel q.1 q.2 := by
  refine zAgr (hd := hW) ?_
  obtain ⟨⟨G, B, hd⟩, hx⟩ := id h
  obtain ⟨⟨m0, r0⟩, -, -, ⟨m3, r3⟩, -⟩ := hd.n0
  have hb := hd.2.2.2.2.1
  -- after the can and the colorant
  have main : ∀ k, k < G 3 → v1 = nI k → (v6 = -1 ∨ ∃ c, c < 8 ∧ v6 = nI c) → Agr hW (L_X9_least_17 N v1 v2 v3 v4 v5 v6 M) (L_X10_least_29 N v1 v2 v3 v4 v5 v6 R) := fun k hk hv1 hv6 => by
    subst hv1
    rcases zRange (N := N) v5 0 99 M R with ⟨l1, l2, e3, e4⟩ | ⟨e3, e4⟩
    · obtain ⟨tol, -, ht, rfl⟩ := zNat (a := 0) (b := 99) rfl rfl l1 l2
      obtain ⟨Ra, hRa⟩ : ∃ Ra, Ra = xS R 8 (upd (R.1 8) 0 v2) := ⟨_, rfl⟩
      obtain ⟨Rb, hRb⟩ : ∃ Rb, Rb = xS Ra 8 (upd (Ra.1 8) 1 v3) := ⟨_, rfl⟩
      obtain ⟨Rc, hRc⟩ : ∃ Rc, Rc = xS Rb 8 (upd (Rb.1 8) 2 v4) := ⟨_, rfl⟩
      have rc : ∀ p, p ≠ 8 → Rc.1 p = R.1 p := fun p hp => by rw [hRc, xS_ne hp, hRb, xS_ne hp, hRa, xS_ne hp]
      have h8 : Rc.1 8 0 = v2 ∧ Rc.1 8 1 = v3 ∧ Rc.1 8 2 = v4 := by
        refine ⟨?_, ?_, ?_⟩
        · rw [hRc, xS_f (by omega), hRb, xS_f (by omega), hRa]; exact xS_in
        · rw [hRc, xS_f (by omega), hRb]; exact xS_in
        · rw [hRc]; exact xS_in
      have hdc : DS M 0 (Rc.1 1) G B := by rw [rc 1 (by omega)]; exact hd
      obtain ⟨M1, f1, f2⟩ := leastM (N := N) (v2 := v2) (v3 := v3) (v4 := v4) (v6 := v6) hd (by omega) ht hk
      obtain ⟨R1, g1, g2⟩ := finds_ok (N := N) (by omega) ht hdc hk h8
      have rr : ∀ p, p ≠ 7 → p ≠ 8 → R1.1 p = R.1 p := fun p p7 p8 => by rw [g1 p p7, rc p p8]
      have hrel : Rel M1 R1 := ⟨⟨G, B, hd.cong (fun q hq => f1.1 _ (by omega) (by omega)) (fun q hq => f1.2 _ (by omega)) (fun i hi => by rw [rr 1 (by omega) (by omega)])⟩, hx.cong ⟨fun q a b => f1.1 q (by omega) (by omega), fun q a b => f1.2 q (by omega)⟩ ⟨rr 2 (by omega) (by omega), rr 3 (by omega) (by omega), rr 5 (by omega) (by omega), by rw [rr 0 (by omega) (by omega)], by rw [rr 0 (by omega) (by omega)], by rw [rr 0 (by omega) (by omega)], by rw [rr 0 (by omega) (by omega)], by rw [rr 0 (by omega) (by omega)], by rw [rr 0 (by omega) (by omega)]⟩⟩
      have fR : ∀ x : Int32, F_X10_finds N (nI k) (nI tol) Rc = some (R1, x) → L_X10_least_29 N (nI k) v2 v3 v4 (nI tol) v6 R = (if x = (-1 : Int32) then xbd (F_X10_fails N 3 R1) (fun (r13 : xR) => some (r13.1, r13.2)) else (if v6 = (-1 : Int32) then xbd (F_X10_done N x R1) (fun (r12 : xR) => some (r12.1, r12.2)) else xck (xin v6 8) (xbd (F_X10_done N (R1.1 7 v6.toNatClampNeg) R1) (fun (r11 : xR) => some (r11.1, r11.2))))) := fun x hx => by
        unfold L_X10_least_29
        rw [e4, xbd_some, if_neg i1n, show xS (R, (1 : Int32)).1 8 (upd ((R, (1 : Int32)).1.1 8) (0 : Int32).toNatClampNeg v2) = Ra from hRa.symm, xl_v, show xS Ra 8 (upd (Ra.1 8) (1 : Int32).toNatClampNeg v3) = Rb from hRb.symm, xl_v, show xS Rb 8 (upd (Rb.1 8) (2 : Int32).toNatClampNeg v4) = Rc from hRc.symm, xl_v, hx, xbd_some, xl_v]
      rcases f2 with ⟨n, w, a1, a2, a3, a4, a5, a6⟩ | ⟨a1, a2⟩
      · rcases g2 with ⟨n', w', b1, b2, b3, b4, b5, b6⟩ | ⟨b1, b2⟩
        · have en : n = n' := by
            rcases Nat.lt_trichotomy n n' with q | q | q
            · rw [b3 n q] at a4; cases a4
            · exact q
            · rw [a3 n' q] at b4; cases b4
          subst en
          have ew : w = w' := Option.some.inj (a4.symm.trans b4)
          subst ew
          have nm : ¬ nI n = (-1 : Int32) := fun e => n_m1 (by omega) e.symm
          rcases hv6 with hv | ⟨c, hc, hv⟩
          · refine Or.inl ⟨M1, xS R1 0 (upd (R1.1 0) 0 0), nI n, ?_, ?_, xS_in, hrel.thrown⟩
            · rw [a5, if_pos hv]
            · rw [fR _ b5, if_neg nm, if_pos hv]
              rfl
          · subst hv
            have hcm : ¬ nI c = (-1 : Int32) := fun e => n_m1 (by omega) e.symm
            refine Or.inl ⟨M1, xS R1 0 (upd (R1.1 0) 0 0), nI (w c), ?_, ?_, xS_in, hrel.thrown⟩
            · rw [a5, if_neg hcm, ck_nI hc (by decide), nI_clamp (by omega), a6 c hc]
            · rw [fR _ b5, if_neg nm, if_neg hcm, ck_nI hc (by decide), nI_clamp (by omega), b6 c hc]
              rfl
        · rw [b1 n a1 a2] at a4; cases a4
      · rcases g2 with ⟨n', w', b1, b2, b3, b4, b5, b6⟩ | ⟨b1, b2⟩
        · rw [a1 n' b1 b2] at b4; cases b4
        · refine Or.inr ⟨M1, xS R1 0 (upd (R1.1 0) 0 3), "java/util/NoSuchElementException", 3, 0, a2, rfl, ?_, xS_in, by decide, hrel.thrown⟩
          rw [fR _ b2, if_pos rfl]
          rfl
    · refine Agr.no (E := "java/lang/IllegalArgumentException") (k := 2) (w := 0) h rfl (by decide) ?_ ?_
      · unfold L_X9_least_17; rw [e3]; rfl
      · unfold L_X10_least_29; rw [e4]; rfl
  rcases zCan (N := N) (n := G 3) (by omega) m3 r3 v1 with ⟨k, hk, hv1, e1, e2⟩ | ⟨e1, e2⟩
  · by_cases hv : v6 = -1
    · have := main k hk hv1 (Or.inl hv)
      have fX : F_X9_least N v1 v2 v3 v4 v5 v6 M = L_X9_least_17 N v1 v2 v3 v4 v5 v6 M := by
        unfold F_X9_least
        rw [e1, xbd_some, xth_inl, if_pos hv]
      have fR : F_X10_least N v1 v2 v3 v4 v5 v6 R = L_X10_least_29 N v1 v2 v3 v4 v5 v6 R := by
        unfold F_X10_least
        rw [e2, xbd_some, if_neg i1n, if_pos hv]
      rw [fX, fR]
      exact this
    · rcases zCol (N := N) (n := G 0) (by omega) m0 r0 v6 with ⟨c, hc, hc6, e3, e4⟩ | ⟨e3, e4⟩
      · have := main k hk hv1 (Or.inr ⟨c, by omega, hc6⟩)
        have fX : F_X9_least N v1 v2 v3 v4 v5 v6 M = L_X9_least_17 N v1 v2 v3 v4 v5 v6 M := by
          unfold F_X9_least
          rw [e1, xbd_some, xth_inl, if_neg hv, e3, xbd_some, xth_inl]
        have fR : F_X10_least N v1 v2 v3 v4 v5 v6 R = L_X10_least_29 N v1 v2 v3 v4 v5 v6 R := by
          unfold F_X10_least
          rw [e2, xbd_some, if_neg i1n, if_neg hv, e4, xbd_some, if_neg i1n]
        rw [fX, fR]
        exact this
      · refine Agr.no (E := "java/lang/IndexOutOfBoundsException") (k := 1) (w := 0) h rfl (by decide) ?_ ?_
        · unfold F_X9_least; rw [e1, xbd_some, xth_inl, if_neg hv, e3]; rfl
        · unfold F_X10_least; rw [e2, xbd_some, if_neg i1n, if_neg hv, e4]; rfl
  · refine Agr.no (E := "java/lang/IndexOutOfBoundsException") (k := 1) (w := 0) h rfl (by decide) ?_ ?_
    · unfold F_X9_least; rw [e1]; rfl
    · unfold F_X10_least; rw [e2]; rfl
