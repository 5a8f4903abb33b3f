/-! both read a text: T its t letters -/
def PM (T : Nat → Nat) (t : Nat) (M0 M : xM) (p : Nat) (bs : Int32) (A : Nat → Int32) : Prop := (M.2 = M0.2 ∧ ∀ k, k ≠ 1473 → k ≠ 1475 → M.1 k = M0.1 k) ∧ M.1 1473 1 = nI t ∧ M.1 1473 2 = nI p ∧ M.1 1473 3 = bs ∧ (∀ i, i < 10 → M.1 1475 i = A i) ∧ (∀ i, i < t → M.1 1474 i = nI (T i)) ∧ p ≤ t
def PR (T : Nat → Nat) (t : Nat) (R0 R : xM) (p : Nat) (w : Int32) (A : Nat → Int32) : Prop := ((∀ k, k ≠ 0 → k ≠ 6 → R.1 k = R0.1 k) ∧ ∀ s, s ≠ 12 → s ≠ 13 → R.1 0 s = R0.1 0 s) ∧ R.1 0 10 = nI t ∧ R.1 0 12 = nI p ∧ R.1 0 13 = w ∧ (∀ i, i < 10 → R.1 6 i = A i) ∧ (∀ i, i < t → R.1 5 i = nI (T i)) ∧ p ≤ t
def TT (T : Nat → Nat) (t : Nat) : Prop := t ≤ 60 ∧ ∀ i, i < t → T i < 65536
def atD (T : Nat → Nat) (t p : Nat) : Prop := p < t ∧ 48 ≤ T p ∧ T p ≤ 57
section
variable {N t p : Nat} {T : Nat → Nat} {M0 M R0 R : xM} {bs : Int32} {A : Nat → Int32}
/-- the class goes one on -/
theorem PM.on (h : PM T t M0 M p bs A) (hp : p < t) : PM T t M0 (xS M 1473 (upd (M.1 1473) 2 (nI (p + 1)))) (p + 1) bs A := by
  obtain ⟨⟨a1, a2⟩, a3, a4, a5, a6, a7, a8⟩ := h
  exact ⟨⟨a1, fun k k1 k2 => (xS_ne k1).trans (a2 k k1 k2)⟩, (xS_f (by omega)).trans a3, xS_in, (xS_f (by omega)).trans a5, fun i hi => (congrFun (xS_ne (by omega)) i).trans (a6 i hi), fun i hi => (congrFun (xS_ne (by omega)) i).trans (a7 i hi), hp⟩
theorem sgM_y {x : Nat} (hT : TT T t) (h : PM T t M0 M p bs A) (hp : p < t) (hx : T p = x) : ∃ M1, F_X5_takeSign N (nI x) M = some (M1, 1) ∧ PM T t M0 M1 (p + 1) bs A := by
  have ht := hT.1
  refine ⟨_, ?_, h.on hp⟩
  unfold F_X5_takeSign
  rw [h.2.1, h.2.2.1, if_neg (nI_ge hp (by omega)), ck_nI (by omega) (by decide), nI_clamp (by omega), h.2.2.2.2.2.1 p hp, if_pos (congrArg nI hx), nI_1, xl_v]
theorem sgM_n {x : Nat} (hT : TT T t) (h : PM T t M0 M p bs A) (hx : x < 65536) (hn : ¬ (p < t ∧ T p = x)) : F_X5_takeSign N (nI x) M = some (M, 0) := by
  have ht := hT.1
  have hp8 := h.2.2.2.2.2.2
  unfold F_X5_takeSign
  rw [h.2.1, h.2.2.1]
  by_cases hp : p < t
  · have := hT.2 p hp
    rw [if_neg (nI_ge hp (by omega)), ck_nI (by omega) (by decide), nI_clamp (by omega), h.2.2.2.2.2.1 p hp, if_neg (fun e => hn ⟨hp, (nI_eq (by omega) (by omega)).mp e⟩)]
  · rw [if_pos (nI_le (by omega) (by omega))]
theorem dM_y (hT : TT T t) (h : PM T t M0 M p bs A) (hd : atD T t p) : F_X5_isAtDigit N M = some (M, 1) := by
  have ht := hT.1
  obtain ⟨hp, d1, d2⟩ := hd
  unfold F_X5_isAtDigit
  rw [h.2.1, h.2.2.1, if_neg (nI_ge hp (by omega)), ck_nI (by omega) (by decide), nI_clamp (by omega), h.2.2.2.2.2.1 p hp, if_neg (show ¬ nI (T p) < (48 : Int32) from nI_nlt (b := 48) d1 (by omega)), ck_nI (by omega) (by decide), if_neg (show ¬ (57 : Int32) < nI (T p) from nI_nlt (a := 57) d2 (by omega))]
theorem dM_n (hT : TT T t) (h : PM T t M0 M p bs A) (hd : ¬ atD T t p) : F_X5_isAtDigit N M = some (M, 0) := by
  have ht := hT.1
  have hp8 := h.2.2.2.2.2.2
  unfold F_X5_isAtDigit
  rw [h.2.1, h.2.2.1]
  by_cases hp : p < t
  · have := hT.2 p hp
    rw [if_neg (nI_ge hp (by omega)), ck_nI (by omega) (by decide), nI_clamp (by omega), h.2.2.2.2.2.1 p hp]
    by_cases d1 : 48 ≤ T p
    · rw [if_neg (show ¬ nI (T p) < (48 : Int32) from nI_nlt (b := 48) d1 (by omega)), ck_nI (by omega) (by decide), if_pos (show (57 : Int32) < nI (T p) from nI_lt (a := 57) (by have : ¬ T p ≤ 57 := fun d2 => hd ⟨hp, d1, d2⟩; omega) (by omega))]
    · rw [if_pos (show nI (T p) < (48 : Int32) from nI_lt (b := 48) (by omega) (by omega))]
  · rw [if_pos (nI_le (by omega) (by omega))]
theorem tdM (hT : TT T t) (h : PM T t M0 M p bs A) (hd : atD T t p) : ∃ M1, F_X5_takeDigit N M = some (M1, nI (T p - 48)) ∧ PM T t M0 M1 (p + 1) bs A := by
  have ht := hT.1
  obtain ⟨hp, d1, d2⟩ := hd
  refine ⟨_, ?_, h.on hp⟩
  unfold F_X5_takeDigit
  rw [h.2.2.1, ck_nI (by omega) (by decide), nI_clamp (by omega), h.2.2.2.2.2.1 p hp, show nI (T p) - 48 = nI (T p - 48) from pk_sub (b := 48) d1, nI_1, xl_v, xl_v]
/-- the reference -/
theorem here_y (hT : TT T t) {w : Int32} (h : PR T t R0 R p w A) (hp : p < t) : F_X10_here N R = some (R, nI (T p)) := by
  have ht := hT.1
  unfold F_X10_here
  rw [h.2.1, h.2.2.1, if_neg (nI_ge hp (by omega)), ck_nI (by omega) (by decide), nI_clamp (by omega), h.2.2.2.2.2.1 p hp]
theorem here_n (hT : TT T t) {w : Int32} (h : PR T t R0 R p w A) (hp : ¬ p < t) : F_X10_here N R = some (R, -1) := by
  have ht := hT.1
  have hp8 := h.2.2.2.2.2.2
  unfold F_X10_here
  rw [h.2.1, h.2.2.1, if_pos (nI_le (by omega) (by omega))]
theorem n_m1 {x : Nat} (h : x < 2147483648) : ¬ (-1 : Int32) = nI x := fun e => by
  have t := congrArg Int32.toInt e
  rw [nI_toInt h] at t
  have : (-1 : Int32).toInt = -1 := rfl
  omega
theorem PR.wr {w w2 : Int32} (h : PR T t R0 R p w A) : PR T t R0 (xS R 0 (upd (R.1 0) 13 w2)) p w2 A := by
  obtain ⟨⟨a1, a2⟩, a3, a4, a5, a6, a7, a8⟩ := h
  exact ⟨⟨fun k k1 k2 => (xS_ne k1).trans (a1 k k1 k2), fun s s1 s2 => (xS_f s2).trans (a2 s s1 s2)⟩, (xS_f (by omega)).trans a3, (xS_f (by omega)).trans a4, xS_in, fun i hi => (congrFun (xS_ne (by omega)) i).trans (a6 i hi), fun i hi => (congrFun (xS_ne (by omega)) i).trans (a7 i hi), a8⟩
theorem PR.pl {w : Int32} {q : Nat} (h : PR T t R0 R p w A) (hq : q ≤ t) : PR T t R0 (xS R 0 (upd (R.1 0) 12 (nI q))) q w A := by
  obtain ⟨⟨a1, a2⟩, a3, a4, a5, a6, a7, a8⟩ := h
  exact ⟨⟨fun k k1 k2 => (xS_ne k1).trans (a1 k k1 k2), fun s s1 s2 => (xS_f s1).trans (a2 s s1 s2)⟩, (xS_f (by omega)).trans a3, xS_in, (xS_f (by omega)).trans a5, fun i hi => (congrFun (xS_ne (by omega)) i).trans (a6 i hi), fun i hi => (congrFun (xS_ne (by omega)) i).trans (a7 i hi), hq⟩
theorem PR.tab {w : Int32} {c : Nat} {x : Int32} (h : PR T t R0 R p w A) : PR T t R0 (xS R 6 (upd (R.1 6) c x)) p w (upd A c x) := by
  obtain ⟨⟨a1, a2⟩, a3, a4, a5, a6, a7, a8⟩ := h
  refine ⟨⟨fun k k1 k2 => (xS_ne k2).trans (a1 k k1 k2), fun s s1 s2 => (congrFun (xS_ne (by omega)) s).trans (a2 s s1 s2)⟩, (congrFun (xS_ne (by omega)) _).trans a3, (congrFun (xS_ne (by omega)) _).trans a4, (congrFun (xS_ne (by omega)) _).trans a5, fun i hi => ?_, fun i hi => (congrFun (xS_ne (by omega)) i).trans (a7 i hi), a8⟩
  rw [xS_at]
  by_cases e : i = c
  · subst e; rw [pk_us, pk_us]
  · rw [pk_un e, pk_un e]; exact a6 i hi
theorem PM.tab {c : Nat} {x : Int32} (h : PM T t M0 M p bs A) : PM T t M0 (xS M 1475 (upd (M.1 1475) c x)) p bs (upd A c x) := by
  obtain ⟨⟨a1, a2⟩, a3, a4, a5, a6, a7, a8⟩ := h
  refine ⟨⟨a1, fun k k1 k2 => (xS_ne k2).trans (a2 k k1 k2)⟩, (congrFun (xS_ne (by omega)) _).trans a3, (congrFun (xS_ne (by omega)) _).trans a4, (congrFun (xS_ne (by omega)) _).trans a5, fun i hi => ?_, fun i hi => (congrFun (xS_ne (by omega)) i).trans (a7 i hi), a8⟩
  rw [xS_at]
  by_cases e : i = c
  · subst e; rw [pk_us, pk_us]
  · rw [pk_un e, pk_un e]; exact a6 i hi
theorem reads_y {x : Nat} (hT : TT T t) (h : PR T t R0 R p 0 A) (hp : p < t) (hx : T p = x) : ∃ R1, F_X10_reads N (nI x) R = some (R1, 0) ∧ PR T t R0 R1 (p + 1) 0 A := by
  obtain ⟨R1, hR1⟩ : ∃ R1, R1 = xS R 0 (upd (R.1 0) 13 0) := ⟨_, rfl⟩
  have h1 : PR T t R0 R1 p 0 A := by rw [hR1]; exact h.wr
  refine ⟨_, ?_, h1.pl (q := p + 1) hp⟩
  unfold F_X10_reads L_X10_reads_18
  rw [here_y hT h hp, xbd_some, if_pos (show (R, nI (T p)).2 = nI x from congrArg nI hx), h.2.2.2.1, show (0 : Int32) ||| 0 = 0 from by decide, show xz 0 = true from by decide, xck_t]
  dsimp only
  rw [← hR1, xl_v, if_pos h1.2.2.2.1, h1.2.2.1, nI_1, xl_v]
theorem reads_n {x : Nat} (hT : TT T t) (h : PR T t R0 R p 0 A) (hx : x < 65536) (hn : ¬ (p < t ∧ T p = x)) : ∃ R1, F_X10_reads N (nI x) R = some (R1, 0) ∧ PR T t R0 R1 p 1 A := by
  obtain ⟨R1, hR1⟩ : ∃ R1, R1 = xS R 0 (upd (R.1 0) 13 1) := ⟨_, rfl⟩
  have h1 : PR T t R0 R1 p 1 A := by rw [hR1]; exact h.wr
  refine ⟨_, ?_, h1.pl (q := p) h.2.2.2.2.2.2⟩
  have hh : ∃ v, F_X10_here N R = some (R, v) ∧ ¬ v = nI x := by
    by_cases hp : p < t
    · have := hT.2 p hp
      exact ⟨_, here_y hT h hp, fun e => hn ⟨hp, (nI_eq (by omega) (by omega)).mp e⟩⟩
    · exact ⟨_, here_n hT h hp, n_m1 (by omega)⟩
  obtain ⟨v, v1, v2⟩ := hh
  unfold F_X10_reads L_X10_reads_18
  rw [v1, xbd_some, if_neg v2, h.2.2.2.1, show (0 : Int32) ||| 1 = 1 from by decide, show xz 1 = true from by decide, xck_t]
  dsimp only
  rw [← hR1, xl_v, if_neg (show ¬ R1.1 0 13 = 0 from by rw [h1.2.2.2.1]; decide), h1.2.2.1, Int32.add_zero, xl_v]
theorem reads_w {x : Int32} (hT : TT T t) (h : PR T t R0 R p 1 A) : ∃ R1, F_X10_reads N x R = some (R1, 0) ∧ PR T t R0 R1 p 1 A := by
  obtain ⟨R1, hR1⟩ : ∃ R1, R1 = xS R 0 (upd (R.1 0) 13 1) := ⟨_, rfl⟩
  have h1 : PR T t R0 R1 p 1 A := by rw [hR1]; exact h.wr
  refine ⟨_, ?_, h1.pl (q := p) h.2.2.2.2.2.2⟩
  have hh : ∃ v, F_X10_here N R = some (R, v) := by
    by_cases hp : p < t
    · exact ⟨_, here_y hT h hp⟩
    · exact ⟨_, here_n hT h hp⟩
  obtain ⟨v, v1⟩ := hh
  have go : ∀ t0 : Int32, (t0 = 0 ∨ t0 = 1) → L_X10_reads_18 N t0 1 R = some (xS R1 0 (upd (R1.1 0) 12 (nI p)), 0) := fun t0 ht0 => by
    have e1 : (1 : Int32) ||| t0 = 1 := by rcases ht0 with rfl | rfl <;> decide
    unfold L_X10_reads_18
    rw [e1, show xz 1 = true from by decide, xck_t, ← hR1, xl_v, if_neg (show ¬ R1.1 0 13 = 0 from by rw [h1.2.2.2.1]; decide), h1.2.2.1, Int32.add_zero, xl_v]
  unfold F_X10_reads
  rw [v1, xbd_some, h.2.2.2.1]
  split
  · exact go 0 (Or.inl rfl)
  · exact go 1 (Or.inr rfl)
theorem in_y {x : Nat} {R : xM} (h1 : 48 ≤ x) (h2 : x ≤ 57) : F_X10_in N (nI x) 48 57 R = some (R, 1) := by
  unfold F_X10_in
  rw [if_neg (show ¬ nI x < (48 : Int32) from nI_nlt (b := 48) h1 (by omega)), if_neg (show ¬ (57 : Int32) < nI x from nI_nlt (a := 57) h2 (by omega))]
theorem in_n {x : Nat} {R : xM} (hx : x < 65536) (h : ¬ (48 ≤ x ∧ x ≤ 57)) : F_X10_in N (nI x) 48 57 R = some (R, 0) := by
  unfold F_X10_in
  by_cases h1 : 48 ≤ x
  · rw [if_neg (show ¬ nI x < (48 : Int32) from nI_nlt (b := 48) h1 (by omega)), if_pos (show (57 : Int32) < nI x from nI_lt (a := 57) (by omega) (by omega))]
  · rw [if_pos (show nI x < (48 : Int32) from nI_lt (b := 48) (by omega) (by omega))]
theorem in_m {R : xM} : F_X10_in N (-1) 48 57 R = some (R, 0) := by
  unfold F_X10_in
  rw [if_pos (show (-1 : Int32) < 48 from by decide)]
/-- whether here is a digit -/
theorem inH (hT : TT T t) {w : Int32} (h : PR T t R0 R p w A) : ∃ v, F_X10_here N R = some (R, v) ∧ ((atD T t p ∧ v = nI (T p) ∧ F_X10_in N v 48 57 R = some (R, 1)) ∨ (¬ atD T t p ∧ F_X10_in N v 48 57 R = some (R, 0))) := by
  by_cases hp : p < t
  · have := hT.2 p hp
    refine ⟨_, here_y hT h hp, ?_⟩
    by_cases hd : 48 ≤ T p ∧ T p ≤ 57
    · exact Or.inl ⟨⟨hp, hd.1, hd.2⟩, rfl, in_y hd.1 hd.2⟩
    · exact Or.inr ⟨fun e => hd e.2, in_n this hd⟩
  · exact ⟨_, here_n hT h hp, Or.inr ⟨fun e => hp e.1, in_m⟩⟩
theorem rd_y (hT : TT T t) (h : PR T t R0 R p 0 A) (hd : atD T t p) : ∃ R1, F_X10_readsDigit N R = some (R1, nI (T p - 48)) ∧ PR T t R0 R1 (p + 1) 0 A := by
  obtain ⟨R1, hR1⟩ : ∃ R1, R1 = xS R 0 (upd (R.1 0) 13 0) := ⟨_, rfl⟩
  have h1 : PR T t R0 R1 p 0 A := by rw [hR1]; exact h.wr
  refine ⟨_, ?_, h1.pl (q := p + 1) hd.1⟩
  obtain ⟨v, v1, v2⟩ := inH (N := N) hT h
  rcases v2 with ⟨-, -, v4⟩ | ⟨v3, -⟩
  · unfold F_X10_readsDigit L_X10_readsDigit_24 L_X10_readsDigit_46
    rw [v1, xbd_some, show F_X10_in N (R, v).2 48 57 (R, v).1 = some (R, 1) from v4, xbd_some, if_neg i1n, h.2.2.2.1, show (0 : Int32) ||| 0 = 0 from by decide, show xz 0 = true from by decide, xck_t]
    dsimp only
    rw [← hR1, xl_v, if_pos h1.2.2.2.1, here_y hT h1 hd.1, xbd_some]
    dsimp only
    rw [if_pos h1.2.2.2.1, h1.2.2.1, nI_1, xl_v, show nI (T p) - 48 = nI (T p - 48) from pk_sub (b := 48) hd.2.1]
  · exact absurd hd v3
theorem rd_n (hT : TT T t) (h : PR T t R0 R p 0 A) (hd : ¬ atD T t p) : ∃ R1, F_X10_readsDigit N R = some (R1, 0) ∧ PR T t R0 R1 p 1 A := by
  obtain ⟨R1, hR1⟩ : ∃ R1, R1 = xS R 0 (upd (R.1 0) 13 1) := ⟨_, rfl⟩
  have h1 : PR T t R0 R1 p 1 A := by rw [hR1]; exact h.wr
  refine ⟨_, ?_, h1.pl (q := p) h.2.2.2.2.2.2⟩
  obtain ⟨v, v1, v2⟩ := inH (N := N) hT h
  rcases v2 with ⟨v3, -⟩ | ⟨-, v4⟩
  · exact absurd v3 hd
  · unfold F_X10_readsDigit L_X10_readsDigit_24 L_X10_readsDigit_46
    rw [v1, xbd_some, show F_X10_in N (R, v).2 48 57 (R, v).1 = some (R, 0) from v4, xbd_some, if_pos (show (R, (0 : Int32)).2 = 0 from rfl), h.2.2.2.1, show (0 : Int32) ||| 1 = 1 from by decide, show xz 1 = true from by decide, xck_t]
    dsimp only
    rw [← hR1, xl_v, if_neg (show ¬ R1.1 0 13 = 0 from by rw [h1.2.2.2.1]; decide), if_neg (show ¬ R1.1 0 13 = 0 from by rw [h1.2.2.2.1]; decide), h1.2.2.1, Int32.add_zero, xl_v]
theorem rd_w (hT : TT T t) (h : PR T t R0 R p 1 A) : ∃ R1, F_X10_readsDigit N R = some (R1, 0) ∧ PR T t R0 R1 p 1 A := by
  obtain ⟨R1, hR1⟩ : ∃ R1, R1 = xS R 0 (upd (R.1 0) 13 1) := ⟨_, rfl⟩
  have h1 : PR T t R0 R1 p 1 A := by rw [hR1]; exact h.wr
  refine ⟨_, ?_, h1.pl (q := p) h.2.2.2.2.2.2⟩
  obtain ⟨v, v1, v2⟩ := inH (N := N) hT h
  have hb : ∃ b : Int32, (b = 0 ∨ b = 1) ∧ F_X10_in N v 48 57 R = some (R, b) := by
    rcases v2 with ⟨-, -, v4⟩ | ⟨-, v4⟩
    · exact ⟨1, Or.inr rfl, v4⟩
    · exact ⟨0, Or.inl rfl, v4⟩
  obtain ⟨b, -, hb⟩ := hb
  have go : ∀ t0 : Int32, (t0 = 0 ∨ t0 = 1) → L_X10_readsDigit_24 N t0 1 R = some (xS R1 0 (upd (R1.1 0) 12 (nI p)), 0) := fun t0 ht0 => by
    have e1 : (1 : Int32) ||| t0 = 1 := by rcases ht0 with rfl | rfl <;> decide
    unfold L_X10_readsDigit_24 L_X10_readsDigit_46
    rw [e1, show xz 1 = true from by decide, xck_t, ← hR1, xl_v, if_neg (show ¬ R1.1 0 13 = 0 from by rw [h1.2.2.2.1]; decide), if_neg (show ¬ R1.1 0 13 = 0 from by rw [h1.2.2.2.1]; decide), h1.2.2.1, Int32.add_zero, xl_v]
  unfold F_X10_readsDigit
  rw [v1, xbd_some, show F_X10_in N (R, v).2 48 57 (R, v).1 = some (R, b) from hb, xbd_some, h.2.2.2.1]
  split
  · exact go 1 (Or.inr rfl)
  · exact go 0 (Or.inl rfl)
end
