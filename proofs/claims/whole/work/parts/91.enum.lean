/-! all ways in their order -/
def sumD (h : Nat → Nat) (n : Nat) : Nat → Nat
  | 0 => h n
  | s + 1 => h (n - (s + 1)) + sumD h n s
def WW : Nat → Nat → Nat
  | 0, _ => 1
  | r + 1, n => sumD (WW r) n n
theorem WW_le : ∀ r, r < 8 → ∀ n, n < 7 → WW r n ≤ 2000 := by decide +kernel
theorem WW_pos : ∀ r n, 1 ≤ WW r n
  | 0, _ => Nat.le_refl _
  | r + 1, n => by
    have : ∀ s, 1 ≤ sumD (WW r) n s := by
      intro s
      cases s with
      | zero => exact WW_pos r n
      | succ s =>
        have := WW_pos r (n - (s + 1))
        show 1 ≤ WW r (n - (s + 1)) + _
        omega
    exact this n
section
variable {N tol k : Nat} {M R0 : xM} {G : Nat → Nat} {B : Nat → Nat → Nat → Bool} {v2 v3 v4 : Int32} {K : Int32 → Int32 → Int32 → xM → Option xR} {x3 : Int32}
theorem SW_upd {u : Nat → Nat} {c n a : Nat} (hc : c < G 0) (hu : u c = 0) : SW G (updN u c n) a = SW G u a + G (5 + 46 * c + a) * n := by
  refine sumN_up (i := c) hc (fun j _ hj => ?_) ?_
  · rw [updN_n hj]
  · rw [updN_s, hu, Nat.mul_zero, Nat.zero_add]
/-- the distances that a prefix leaves -/
def gpre (G : Nat → Nat) (g0 : Nat → Int) (u : Nat → Nat) : Nat → Int := fun a => g0 a - (SW G u a : Int)
theorem gpre_upd {g0 : Nat → Int} {u : Nat → Nat} {c n : Nat} (hc : c < G 0) (hu : u c = 0) : gpre G g0 (updN u c n) = gsub G (gpre G g0 u) c n := by
  funext a
  show g0 a - (SW G (updN u c n) a : Int) = g0 a - (SW G u a : Int) - (G (5 + 46 * c + a) : Int) * (n : Int)
  rw [SW_upd hc hu, Int.natCast_add, Int.natCast_mul]
  omega
/-- what the loop does from a way on -/
def EN (N tol k : Nat) (G : Nat → Nat) (K : Int32 → Int32 → Int32 → xM → Option xR) (x3 : Int32) (R0 R : xM) (f W c : Nat) (u e : Nat → Nat) (q : Option (Nat → Nat)) : Prop := (∀ w, q = some w → ∃ R1, L_X10_finds_64 N K f (nI k) (nI tol) x3 1 R = some (R1, x3) ∧ RW R0 R1 (fun j => if j < c then u j else w j)) ∧ (q = none → ∃ R1, L_X10_finds_64 N K f (nI k) (nI tol) x3 1 R = xbd (F_X10_nextWay N R1) (fun (r5 : xR) => xl (r5.2) (fun (y6 : Int32) => L_X10_finds_64 N K (f - W) (nI k) (nI tol) x3 y6 r5.1)) ∧ RW R0 R1 e)
theorem enum (hN : 30 ≤ N) (ht : tol ≤ 99) (hd : DS M 0 (R0.1 1) G B) (hk : k < G 3) (h8 : R0.1 8 0 = v2 ∧ R0.1 8 1 = v3 ∧ R0.1 8 2 = v4) : ∀ r c (u : Nat → Nat) n f (R : xM) (ok : Bool), c + r + 1 = G 0 → (∀ j, c ≤ j → u j = 0) → (∀ j, u j ≤ 6) → n ≤ 6 → WW r n ≤ f → (ok = true ↔ ∀ j, j < c → u j ≤ inC G j) → RW R0 R (updN u c n) → EN N tol k G K x3 R0 R f (WW r n) c u (updN u (G 0 - 1) n) (if ok = true then fw G tol (r + 1) c n (gpre G (gap0 G k v2 v3 v4) u) else none) := by
  have hg := hd.2.2.2.2
  have hg0 : G 0 ≤ 8 := hg.1.1
  have hv := vals9 hg
  intro r
  induction r with
  | zero =>
    intro c u n f R ok hc hu hu6 hn hf hok hR
    have hf : 1 ≤ f := hf
    obtain ⟨f, rfl⟩ : ∃ f', f = f' + 1 := ⟨f - 1, by omega⟩
    have hcm : G 0 - 1 = c := by omega
    have hw6 : ∀ j, j < 8 → updN u c n j ≤ 6 := fun j _ => by
      by_cases e : j = c
      · rw [e, updN_s]; exact hn
      · rw [updN_n e]; exact hu6 j
    have hP := reaches_ok (N := N) hN ht hd hk h8 hR hw6
    -- what is asked
    have hask : PW G tol (gap0 G k v2 v3 v4) (updN u c n) ↔ (∀ j, j < c → u j ≤ inC G j) ∧ n ≤ inC G c ∧ tolB tol (gsub G (gpre G (gap0 G k v2 v3 v4) u) c n) = true := by
      rw [← gpre_upd (by omega) (hu c (Nat.le_refl _)), tolB_iff]
      constructor
      · intro ⟨p1, p2⟩
        refine ⟨fun j hj => ?_, ?_, p1⟩
        · have := p2 j (by omega)
          rw [updN_n (by omega)] at this
          exact this
        · have := p2 c (by omega)
          rw [updN_s] at this
          exact this
      · intro ⟨p1, p2, p3⟩
        refine ⟨p3, fun j hj => ?_⟩
        by_cases e : j = c
        · rw [e, updN_s]; exact p2
        · rw [updN_n e]; exact p1 j (by omega)
    -- what is looked for
    have hfw : fw G tol 1 c n (gpre G (gap0 G k v2 v3 v4) u) = (if n ≤ inC G c ∧ tolB tol (gsub G (gpre G (gap0 G k v2 v3 v4) u) c n) = true then some (updN (fun _ => 0) c n) else none) := by
      rw [fw_s]
      by_cases q : n ≤ inC G c ∧ tolB tol (gsub G (gpre G (gap0 G k v2 v3 v4) u) c n) = true
      · rw [if_pos q]
        refine down_hit (fwP_some q.1 ?_)
        rw [Nat.sub_self, fw_zero, if_pos q.2]
      · rw [if_neg q]
        refine down_none (fun s hs => fwP_none (fun hi => ?_))
        by_cases e : s = n
        · subst e
          rw [Nat.sub_self, fw_zero, if_neg (fun z => q ⟨hi, z⟩)]
        · show (if n - s = 0 then _ else none) = none
          rw [if_neg (by omega)]
    have e64 : ∀ b : Int32, F_X10_reaches N (nI k) (nI tol) R = some (R, b) → L_X10_finds_64 N K (f + 1) (nI k) (nI tol) x3 1 R = (if b = 0 then xbd (F_X10_nextWay N R) (fun (r5 : xR) => xl (r5.2) (fun (y6 : Int32) => L_X10_finds_64 N K f (nI k) (nI tol) x3 y6 r5.1)) else some (R, x3)) := fun b hb => by
      rw [L_X10_finds_64, if_neg (show ¬ (1 : Int32) = 0 from by decide), hb, xbd_some]
    constructor
    · intro w hw
      by_cases hk1 : ok = true
      · rw [if_pos hk1, hfw] at hw
        by_cases q : n ≤ inC G c ∧ tolB tol (gsub G (gpre G (gap0 G k v2 v3 v4) u) c n) = true
        · rw [if_pos q] at hw
          obtain rfl := Option.some.inj hw
          refine ⟨R, ?_, hR.cong (fun j hj => ?_)⟩
          · rw [e64 1 (hP.1 (hask.mpr ⟨hok.mp hk1, q.1, q.2⟩)), if_neg (show ¬ (1 : Int32) = 0 from by decide)]
          · by_cases q1 : j < c
            · rw [if_pos q1, updN_n (by omega)]
            · rw [if_neg q1]
              by_cases q2 : j = c
              · rw [q2, updN_s, updN_s]
              · rw [updN_n q2, updN_n q2]
                exact (hu j (by omega)).symm
        · rw [if_neg q] at hw; cases hw
      · rw [if_neg hk1] at hw; cases hw
    · intro hw
      refine ⟨R, ?_, by rw [hcm]; exact hR⟩
      rw [e64 0 (hP.2 (fun hp => ?_)), if_pos rfl]
      · rfl
      · obtain ⟨p1, p2, p3⟩ := hask.mp hp
        rw [if_pos (hok.mpr p1), hfw, if_pos ⟨p2, p3⟩] at hw
        cases hw
  | succ r ih =>
    intro c u n f R ok hc hu hu6 hn hf hok hR
    have hf : sumD (WW r) n n ≤ f := hf
    -- from the choice s for this colorant downwards
    have inner : ∀ s f (R : xM), s ≤ n → sumD (WW r) n s ≤ f → RW R0 R (updN (updN u c s) (c + 1) (n - s)) → EN N tol k G K x3 R0 R f (sumD (WW r) n s) c u (updN u (G 0 - 1) n) (if ok = true then down (fwP G tol (r + 1) c n (gpre G (gap0 G k v2 v3 v4) u)) s else none) := by
      intro s
      induction s with
      | zero =>
        intro f R hs hfs hR
        have hfs : WW r n ≤ f := hfs
        have e0 : updN u c 0 = u := by
          have := updN_same (w := u) (c := c)
          rw [hu c (Nat.le_refl _)] at this
          exact this
        rw [e0, Nat.sub_zero] at hR
        have h1 := ih (c + 1) u n f R ok (by omega) (fun j hj => hu j (by omega)) hu6 hn hfs (by
          rw [hok]
          constructor
          · intro q j hj
            by_cases e : j = c
            · rw [e, hu c (Nat.le_refl _)]; exact Nat.zero_le _
            · exact q j (by omega)
          · intro q j hj
            exact q j (by omega)) hR
        have eg : gsub G (gpre G (gap0 G k v2 v3 v4) u) c 0 = gpre G (gap0 G k v2 v3 v4) u := gsub_0
        have ed : down (fwP G tol (r + 1) c n (gpre G (gap0 G k v2 v3 v4) u)) 0 = (match fw G tol (r + 1) (c + 1) n (gpre G (gap0 G k v2 v3 v4) u) with | some w => some (updN w c 0) | none => none) := by
          show (if 0 ≤ inC G c then (match fw G tol (r + 1) (c + 1) (n - 0) (gsub G (gpre G (gap0 G k v2 v3 v4) u) c 0) with | some w => some (updN w c 0) | none => none) else none) = _
          rw [if_pos (Nat.zero_le _), eg, Nat.sub_zero]
        constructor
        · intro w hw
          by_cases hk1 : ok = true
          · rw [if_pos hk1, ed] at hw
            cases hq : fw G tol (r + 1) (c + 1) n (gpre G (gap0 G k v2 v3 v4) u) with
            | none => rw [hq] at hw; cases hw
            | some w2 =>
              rw [hq] at hw
              obtain rfl := Option.some.inj hw
              obtain ⟨R1, z1, z2⟩ := h1.1 w2 (by rw [if_pos hk1, hq])
              refine ⟨R1, z1, z2.cong (fun j hj => ?_)⟩
              by_cases q1 : j < c
              · rw [if_pos q1, if_pos (by omega)]
              · by_cases q2 : j = c
                · rw [if_neg q1, q2, updN_s, if_pos (by omega), hu c (Nat.le_refl _)]
                · rw [if_neg q1, updN_n q2, if_neg (by omega)]
          · rw [if_neg hk1] at hw; cases hw
        · intro hw
          refine h1.2 ?_
          by_cases hk1 : ok = true
          · rw [if_pos hk1, ed] at hw
            rw [if_pos hk1]
            cases hq : fw G tol (r + 1) (c + 1) n (gpre G (gap0 G k v2 v3 v4) u) with
            | none => rfl
            | some w2 => rw [hq] at hw; cases hw
          · rw [if_neg hk1]
      | succ s ihs =>
        intro f R hs hfs hR
        have hfs : WW r (n - (s + 1)) + sumD (WW r) n s ≤ f := hfs
        have hu2 : ∀ j, updN u c (s + 1) j ≤ 6 := fun j => by
          by_cases e : j = c
          · rw [e, updN_s]; omega
          · rw [updN_n e]; exact hu6 j
        obtain ⟨ok2, hok2⟩ : ∃ ok2 : Bool, ok2 = true ↔ ∀ j, j < c + 1 → updN u c (s + 1) j ≤ inC G j := by
          by_cases q : ∀ j, j < c + 1 → updN u c (s + 1) j ≤ inC G j
          · exact ⟨true, fun _ => q, fun _ => rfl⟩
          · exact ⟨false, fun e => absurd e (by decide), fun e => absurd e q⟩
        have hpre : ok2 = true ↔ ok = true ∧ s + 1 ≤ inC G c := by
          rw [hok2, hok]
          constructor
          · intro q
            refine ⟨fun j hj => ?_, ?_⟩
            · have := q j (by omega)
              rw [updN_n (by omega)] at this
              exact this
            · have := q c (by omega)
              rw [updN_s] at this
              exact this
          · intro ⟨q1, q2⟩ j hj
            by_cases e : j = c
            · rw [e, updN_s]; exact q2
            · rw [updN_n e]; exact q1 j (by omega)
        have h1 := ih (c + 1) (updN u c (s + 1)) (n - (s + 1)) f R ok2 (by omega) (fun j hj => by rw [updN_n (by omega)]; exact hu j (by omega)) hu2 (by omega) (by omega) hok2 hR
        rw [gpre_upd (by omega) (hu c (Nat.le_refl _))] at h1
        -- a find
        have yes : ∀ w2, (if ok2 = true then fw G tol (r + 1) (c + 1) (n - (s + 1)) (gsub G (gpre G (gap0 G k v2 v3 v4) u) c (s + 1)) else none) = some w2 → (if ok = true then down (fwP G tol (r + 1) c n (gpre G (gap0 G k v2 v3 v4) u)) (s + 1) else none) = some (updN w2 c (s + 1)) := fun w2 hw2 => by
          by_cases q : ok2 = true
          · rw [if_pos q] at hw2
            obtain ⟨q1, q2⟩ := hpre.mp q
            rw [if_pos q1]
            exact down_hit (fwP_some q2 hw2)
          · rw [if_neg q] at hw2; cases hw2
        have no : (if ok2 = true then fw G tol (r + 1) (c + 1) (n - (s + 1)) (gsub G (gpre G (gap0 G k v2 v3 v4) u) c (s + 1)) else none) = none → (if ok = true then down (fwP G tol (r + 1) c n (gpre G (gap0 G k v2 v3 v4) u)) (s + 1) else none) = (if ok = true then down (fwP G tol (r + 1) c n (gpre G (gap0 G k v2 v3 v4) u)) s else none) := fun hw2 => by
          by_cases q1 : ok = true
          · rw [if_pos q1, if_pos q1]
            refine down_miss (fwP_none (fun hi => ?_))
            rw [if_pos (hpre.mpr ⟨q1, hi⟩)] at hw2
            exact hw2
          · rw [if_neg q1, if_neg q1]
        cases hq : (if ok2 = true then fw G tol (r + 1) (c + 1) (n - (s + 1)) (gsub G (gpre G (gap0 G k v2 v3 v4) u) c (s + 1)) else none) with
        | some w2 =>
          obtain ⟨R1, z1, z2⟩ := h1.1 w2 hq
          rw [yes w2 hq]
          constructor
          · intro w hw
            obtain rfl := Option.some.inj hw
            refine ⟨R1, z1, z2.cong (fun j hj => ?_)⟩
            by_cases q1 : j < c
            · rw [if_pos q1, if_pos (by omega), updN_n (by omega)]
            · by_cases q2 : j = c
              · rw [if_neg q1, q2, updN_s, if_pos (by omega), updN_s]
              · rw [if_neg q1, updN_n q2, if_neg (by omega)]
          · intro hw; cases hw
        | none =>
          obtain ⟨R1, z1, z2⟩ := h1.2 hq
          rw [no hq]
          have r0 : R1.1 1 0 = nI (G 0) := by rw [z2.1 1 (by omega)]; exact hd.n0.1.2
          have hm1 : c < G 0 - 1 := by omega
          obtain ⟨R2, y1, y2⟩ := next_1 (N := N) (c := c) hN r0 hg0 z2 (fun j _ => by
            by_cases e : j = G 0 - 1
            · rw [e, updN_s]; omega
            · rw [updN_n e]; exact hu2 j) (by omega) (by rw [updN_n (by omega), updN_s]; omega) (fun j j1 j2 => by rw [updN_n (by omega), updN_n (by omega)]; exact hu j (by omega))
          have y3 : RW R0 R2 (updN (updN u c s) (c + 1) (n - s)) := y2.cong (fun j hj => by
            by_cases q1 : j = c + 1
            · rw [q1, updN_s, updN_s, updN_s]
              omega
            · rw [updN_n q1, updN_n q1]
              by_cases q2 : j = c
              · rw [q2, updN_s, updN_s, updN_n (by omega), updN_s]
                omega
              · rw [updN_n q2, updN_n q2]
                by_cases q3 : j = G 0 - 1
                · rw [q3, updN_s]
                  exact hu _ (by omega)
                · rw [updN_n q3, updN_n q3, updN_n q2])
          have e1 : L_X10_finds_64 N K f (nI k) (nI tol) x3 1 R = L_X10_finds_64 N K (f - WW r (n - (s + 1))) (nI k) (nI tol) x3 1 R2 := by
            rw [z1, y1, xbd_some]
            rfl
          have h2 := ihs (f - WW r (n - (s + 1))) R2 (by omega) (by omega) y3
          have ef : f - WW r (n - (s + 1)) - sumD (WW r) n s = f - sumD (WW r) n (s + 1) := by
            show _ = f - (WW r (n - (s + 1)) + sumD (WW r) n s)
            omega
          constructor
          · intro w hw
            obtain ⟨R3, t1, t2⟩ := h2.1 w hw
            exact ⟨R3, e1.trans t1, t2⟩
          · intro hw
            obtain ⟨R3, t1, t2⟩ := h2.2 hw
            rw [ef] at t1
            exact ⟨R3, e1.trans t1, t2⟩
    rw [fw_s]
    refine inner n f R (Nat.le_refl _) hf (hR.cong (fun j hj => ?_))
    rw [Nat.sub_self]
    by_cases q : j = c + 1
    · rw [q, updN_s, updN_n (by omega)]
      exact (hu _ (by omega)).symm
    · rw [updN_n q]
end
