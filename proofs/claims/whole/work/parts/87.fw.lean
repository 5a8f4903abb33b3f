/-! the least correction: what both look for -/
def down {α : Type} (P : Nat → Option α) : Nat → Option α
  | 0 => P 0
  | t + 1 => match P (t + 1) with
    | some x => some x
    | none => down P t
theorem down_hit {α : Type} {P : Nat → Option α} {x : α} : ∀ {t : Nat}, P t = some x → down P t = some x
  | 0, h => h
  | t + 1, h => by
    show (match P (t + 1) with | some x => some x | none => down P t) = some x
    rw [h]
theorem down_miss {α : Type} {P : Nat → Option α} {t : Nat} (h : P (t + 1) = none) : down P (t + 1) = down P t := by
  show (match P (t + 1) with | some x => some x | none => down P t) = down P t
  rw [h]
theorem down_some {α : Type} {P : Nat → Option α} {x : α} : ∀ {t : Nat}, down P t = some x → ∃ s, s ≤ t ∧ P s = some x
  | 0, h => ⟨0, Nat.le_refl _, h⟩
  | t + 1, h => by
    cases hp : P (t + 1) with
    | some y =>
      rw [down_hit hp] at h
      exact ⟨t + 1, Nat.le_refl _, by rw [← Option.some.inj h]; exact hp⟩
    | none =>
      rw [down_miss hp] at h
      obtain ⟨s, h1, h2⟩ := down_some h
      exact ⟨s, by omega, h2⟩
theorem down_none {α : Type} {P : Nat → Option α} : ∀ {t : Nat}, (∀ s, s ≤ t → P s = none) → down P t = none
  | 0, h => h 0 (Nat.le_refl _)
  | t + 1, h => by
    rw [down_miss (h (t + 1) (Nat.le_refl _))]
    exact down_none (fun s hs => h s (by omega))
theorem down_cut {α : Type} {P : Nat → Option α} {m : Nat} : ∀ {t : Nat}, m ≤ t → (∀ s, m < s → s ≤ t → P s = none) → down P t = down P m
  | 0, h, _ => by rw [show m = 0 by omega]
  | t + 1, h, h2 => by
    by_cases e : m = t + 1
    · rw [e]
    · rw [down_miss (h2 (t + 1) (by omega) (Nat.le_refl _))]
      exact down_cut (by omega) (fun s a b => h2 s a (by omega))
def gsub (G : Nat → Nat) (g : Nat → Int) (c t : Nat) : Nat → Int := fun a => g a - (G (5 + 46 * c + a) : Int) * (t : Int)
def tolB (tol : Nat) (g : Nat → Int) : Bool := decide (-(tol : Int) ≤ g 0 ∧ g 0 ≤ tol) && (decide (-(tol : Int) ≤ g 1 ∧ g 1 ≤ tol) && decide (-(tol : Int) ≤ g 2 ∧ g 2 ≤ tol))
theorem tolB_iff {tol : Nat} {g : Nat → Int} : tolB tol g = true ↔ ∀ a, a < 3 → -(tol : Int) ≤ g a ∧ g a ≤ tol := by
  unfold tolB
  rw [Bool.and_eq_true_iff, Bool.and_eq_true_iff, decide_eq_true_iff, decide_eq_true_iff, decide_eq_true_iff]
  constructor
  · intro ⟨h0, h1, h2⟩ a ha
    have : a = 0 ∨ a = 1 ∨ a = 2 := by omega
    rcases this with rfl | rfl | rfl
    · exact h0
    · exact h1
    · exact h2
  · intro h
    exact ⟨h 0 (by omega), h 1 (by omega), h 2 (by omega)⟩
def fw (G : Nat → Nat) (tol : Nat) : Nat → Nat → Nat → (Nat → Int) → Option (Nat → Nat)
  | 0, _, left, g => if left = 0 then (if tolB tol g = true then some (fun _ => 0) else none) else none
  | r + 1, c, left, g => down (fun t => if t ≤ inC G c then (match fw G tol r (c + 1) (left - t) (gsub G g c t) with
    | some w => some (updN w c t)
    | none => none) else none) left
/-- one choice for a colorant -/
abbrev fwP (G : Nat → Nat) (tol r c left : Nat) (g : Nat → Int) : Nat → Option (Nat → Nat) := fun t => if t ≤ inC G c then (match fw G tol r (c + 1) (left - t) (gsub G g c t) with
    | some w => some (updN w c t)
    | none => none) else none
theorem fw_s {G : Nat → Nat} {tol r c left : Nat} {g : Nat → Int} : fw G tol (r + 1) c left g = down (fwP G tol r c left g) left := rfl
theorem fwP_some {G : Nat → Nat} {tol r c left t : Nat} {g : Nat → Int} {w : Nat → Nat} (h1 : t ≤ inC G c) (h2 : fw G tol r (c + 1) (left - t) (gsub G g c t) = some w) : fwP G tol r c left g t = some (updN w c t) := by
  show (if t ≤ inC G c then _ else _) = _
  rw [if_pos h1, h2]
theorem fwP_none {G : Nat → Nat} {tol r c left t : Nat} {g : Nat → Int} (h : t ≤ inC G c → fw G tol r (c + 1) (left - t) (gsub G g c t) = none) : fwP G tol r c left g t = none := by
  show (if t ≤ inC G c then _ else _) = _
  by_cases h1 : t ≤ inC G c
  · rw [if_pos h1, h h1]
  · rw [if_neg h1]
theorem gsub_0 {G : Nat → Nat} {g : Nat → Int} {c : Nat} : gsub G g c 0 = g := by
  funext a
  show g a - (G (5 + 46 * c + a) : Int) * ((0 : Nat) : Int) = g a
  omega
theorem mul9 {v t : Nat} (h : v ≤ 9) : 0 ≤ (v : Int) * (t : Int) ∧ (v : Int) * (t : Int) ≤ 9 * (t : Int) := by
  have h1 : v * t ≤ 9 * t := Nat.mul_le_mul_right t h
  have h2 : ((v * t : Nat) : Int) = (v : Int) * (t : Int) := Int.natCast_mul v t
  omega
theorem updN_same {w : Nat → Nat} {c : Nat} : updN w c (w c) = w := by
  funext j
  by_cases e : j = c
  · subst e; exact updN_s
  · exact updN_n e
/-- with nothing left -/
theorem fw_zero {G : Nat → Nat} {tol : Nat} : ∀ {r c : Nat} {g : Nat → Int}, fw G tol r c 0 g = if tolB tol g = true then some (fun _ => 0) else none
  | 0, _, _ => rfl
  | r + 1, c, g => by
    have ih := fw_zero (G := G) (tol := tol) (r := r) (c := c + 1) (g := g)
    show (if 0 ≤ inC G c then (match fw G tol r (c + 1) (0 - 0) (gsub G g c 0) with | some w => some (updN w c 0) | none => none) else none) = _
    rw [if_pos (Nat.zero_le _), gsub_0, Nat.sub_zero, ih]
    by_cases h : tolB tol g = true
    · rw [if_pos h]
      exact congrArg some (updN_same (w := fun _ => 0) (c := c))
    · rw [if_neg h]
/-- what is not in reach is not found -/
theorem fw_reach {G : Nat → Nat} {tol : Nat} (hv : ∀ c, c < 8 → ∀ a, a < 3 → G (5 + 46 * c + a) ≤ 9) : ∀ {r c left : Nat} {g : Nat → Int} {w : Nat → Nat}, c + r ≤ 8 → fw G tol r c left g = some w → ∀ a, a < 3 → -(tol : Int) ≤ g a ∧ g a ≤ tol + 9 * (left : Int)
  | 0, c, left, g, w, _, h => by
    have h : (if left = 0 then (if tolB tol g = true then some (fun _ => 0) else none) else none) = some w := h
    by_cases h0 : left = 0
    · rw [if_pos h0] at h
      by_cases h1 : tolB tol g = true
      · intro a ha
        have := tolB_iff.mp h1 a ha
        omega
      · rw [if_neg h1] at h; cases h
    · rw [if_neg h0] at h; cases h
  | r + 1, c, left, g, w, hc, h => by
    rw [fw_s] at h
    obtain ⟨t, ht, hp⟩ := down_some h
    intro a ha
    by_cases h1 : t ≤ inC G c
    · cases hf : fw G tol r (c + 1) (left - t) (gsub G g c t) with
      | none => rw [fwP_none (fun _ => hf)] at hp; cases hp
      | some w2 =>
        have := fw_reach hv (by omega) hf a ha
        have h2 := mul9 (t := t) (hv c (by omega) a ha)
        have h3 : gsub G g c t a = g a - (G (5 + 46 * c + a) : Int) * (t : Int) := rfl
        omega
    · rw [fwP_none (fun q => absurd q h1)] at hp; cases hp
/-- the class's search -/
def LSt (M0 M : xM) (tol : Nat) (g : Nat → Int) (ch : Nat → Nat) : Prop := (∀ k, k ≠ 1476 → k ≠ 1478 → M.1 k = M0.1 k) ∧ (∀ k, k ≠ 1477 → M.2 k = M0.2 k) ∧ M.1 1476 1 = nI tol ∧ (∀ a, a < 3 → (M.2 1477 a).toInt = g a) ∧ ∀ j, j < 8 → M.1 1478 j = nI (ch j)
def GB (g : Nat → Int) (left : Nat) : Prop := ∀ a, a < 3 → -5000000000 + 9 * (left : Int) ≤ g a ∧ g a ≤ 5000000000
def inR (tol left : Nat) (g : Nat → Int) : Prop := ∀ a, a < 3 → -(tol : Int) ≤ g a ∧ g a ≤ tol + 9 * (left : Int)
theorem neg_toInt {n : Nat} (h : n < 1000000) : (-(nI n)).toInt = -(n : Int) := by
  rw [← Int32.zero_sub, zSub (x := 0) (a := 0) rfl (nI_toInt (by omega)) (by omega) (by omega)]
  omega
theorem reach_ok {N tol left : Nat} {M0 M : xM} {g : Nat → Int} {ch : Nat → Nat} (hN : 10 ≤ N) (ht : tol ≤ 99) (hl : left ≤ 6) (h : LSt M0 M tol g ch) : (inR tol left g → F_X8_isInReach N (nI left) M = some (M, 1)) ∧ (¬ inR tol left g → F_X8_isInReach N (nI left) M = some (M, 0)) := by
  have e1 : ∀ a, a < 3 → (lg_cmp (M.2 1477 a) ((-(M.1 1476 1))).toInt64 < 0 ↔ g a < -(tol : Int)) := fun a ha => by
    rw [lg_cmp_lt, Int64.lt_iff_toInt_lt, Jvm.Kit.i64_of_i32, h.2.2.1, neg_toInt (by omega), h.2.2.2.1 a ha]
  have e2 : ∀ a, a < 3 → (lg_cmp (M.2 1477 a) (((M.1 1476 1) + (nI left * 9))).toInt64 ≤ 0 ↔ g a ≤ tol + 9 * (left : Int)) := fun a ha => by
    rw [lg_cmp_le, Int64.le_iff_toInt_le, Jvm.Kit.i64_of_i32, h.2.2.1, show nI left * 9 = nI (left * 9) from pk_mul left 9, nI_add, nI_toInt (by omega), h.2.2.2.1 a ha]
    constructor <;> intro _ <;> omega
  have step : ∀ n a, a < 3 → ((-(tol : Int) ≤ g a ∧ g a ≤ tol + 9 * (left : Int)) → L_X8_isInReach_2 N (n + 1) (nI left) (nI a) M = L_X8_isInReach_2 N n (nI left) (nI (a + 1)) M) ∧ (¬ (-(tol : Int) ≤ g a ∧ g a ≤ tol + 9 * (left : Int)) → L_X8_isInReach_2 N (n + 1) (nI left) (nI a) M = some (M, 0)) := fun n a ha => by
    rw [L_X8_isInReach_2, if_neg (show ¬ (3 : Int32) ≤ nI a from nI_ge (b := 3) ha (by omega)), ck_nI ha (by decide), nI_clamp (by omega)]
    constructor
    · intro ⟨h1, h2⟩
      rw [if_neg (fun e => by have := (e1 a ha).mp e; omega), ck_nI ha (by decide), if_pos ((e2 a ha).mpr h2), nI_1, xl_v]
    · intro h1
      by_cases q : g a < -(tol : Int)
      · rw [if_pos ((e1 a ha).mpr q)]
      · rw [if_neg (fun e => q ((e1 a ha).mp e)), ck_nI ha (by decide), if_neg (fun e => h1 ⟨by omega, (e2 a ha).mp e⟩)]
  have last : ∀ n, L_X8_isInReach_2 N (n + 1) (nI left) (nI 3) M = some (M, 1) := fun n => by
    rw [L_X8_isInReach_2, if_pos (show (3 : Int32) ≤ nI 3 from by decide)]
  obtain ⟨n, hn⟩ : ∃ n, N = n + 4 := ⟨N - 4, by omega⟩
  have e0 : F_X8_isInReach N (nI left) M = L_X8_isInReach_2 N (n + 4) (nI left) (nI 0) M := by
    unfold F_X8_isInReach
    rw [← hn]
    rfl
  constructor
  · intro hr
    rw [e0, (step (n + 3) 0 (by omega)).1 (hr 0 (by omega)), (step (n + 2) 1 (by omega)).1 (hr 1 (by omega)), (step (n + 1) 2 (by omega)).1 (hr 2 (by omega))]
    exact last n
  · intro hr
    rw [e0]
    by_cases h0 : -(tol : Int) ≤ g 0 ∧ g 0 ≤ tol + 9 * (left : Int)
    · rw [(step (n + 3) 0 (by omega)).1 h0]
      by_cases h1 : -(tol : Int) ≤ g 1 ∧ g 1 ≤ tol + 9 * (left : Int)
      · rw [(step (n + 2) 1 (by omega)).1 h1]
        by_cases h2 : -(tol : Int) ≤ g 2 ∧ g 2 ≤ tol + 9 * (left : Int)
        · exact absurd (fun a ha => by
            have : a = 0 ∨ a = 1 ∨ a = 2 := by omega
            rcases this with rfl | rfl | rfl
            · exact h0
            · exact h1
            · exact h2) hr
        · exact (step (n + 1) 2 (by omega)).2 h2
      · exact (step (n + 2) 1 (by omega)).2 h1
    · exact (step (n + 3) 0 (by omega)).2 h0
theorem choose_ok {N tol c t prev : Nat} {M0 M : xM} {r : Nat → Int32} {G : Nat → Nat} {B : Nat → Nat → Nat → Bool} {g : Nat → Int} {ch : Nat → Nat} (hN : 10 ≤ N) (hd : DS M0 0 r G B) (hc : c < 8) (ht : t ≤ 6) (hp : prev ≤ 6) (hg : ∀ a, a < 3 → -6000000000 ≤ gsub G g c prev a ∧ gsub G g c prev a ≤ 6000000000) (h : LSt M0 M tol (gsub G g c prev) ch) (hch : ch c = prev) : ∃ M1, F_X8_choose N (5 + 5 * c) (nI c) (nI t) M = some (M1, 0) ∧ LSt M0 M1 tol (gsub G g c t) (updN ch c t) := by
  obtain ⟨h1, h2, h3, h4, h5⟩ := h
  have hv := (hd.2.2.2.2.2.1 c hc).2.1
  obtain ⟨m, hm⟩ : ∃ m, m = nI t - nI prev := ⟨_, rfl⟩
  have hmi : m.toInt64.toInt = (t : Int) - prev := by rw [Jvm.Kit.i64_of_i32, hm, pk_sub_toInt (by omega) (by omega)]
  have loop : ∀ n a (M2 : xM), a ≤ 3 → 3 < n + a → M2.1 = M.1 → (∀ k, k ≠ 1477 → M2.2 k = M.2 k) → (∀ b, b < a → (M2.2 1477 b).toInt = gsub G g c t b) → (∀ b, a ≤ b → b < 3 → (M2.2 1477 b).toInt = gsub G g c prev b) → ∃ M1, L_X8_choose_13 N (5 + 5 * c) n (nI c) (nI t) m (nI a) M2 = some (M1, 0) ∧ LSt M0 M1 tol (gsub G g c t) (updN ch c t) := by
    intro n
    induction n with
    | zero => intro a M2 a1 a2; omega
    | succ n ih =>
      intro a M2 a1 a2 k1 k2 k3 k4
      rw [L_X8_choose_13]
      by_cases ha : a = 3
      · subst ha
        rw [if_pos (show (3 : Int32) ≤ nI 3 from by decide), ck_nI hc (by decide), nI_clamp (by omega), xl_v]
        refine ⟨_, rfl, fun k q1 q2 => ?_, fun k q1 => ?_, ?_, fun b hb => k3 b hb, fun j hj => ?_⟩
        · rw [xS_ne q2, k1]; exact h1 k q1 q2
        · exact (k2 k q1).trans (h2 k q1)
        · rw [xS_ne (by omega), k1]; exact h3
        · rw [xS_at, k1]
          by_cases e : j = c
          · subst e; rw [pk_us, updN_s]
          · rw [pk_un e, updN_n e]; exact h5 j hj
      · have ha3 : a < 3 := by omega
        have hval : M2.1 (5 + 5 * c + 1) a = nI (G (5 + 46 * c + a)) := by rw [k1, h1 _ (by omega) (by omega)]; exact hd.m ((loc_c c hc).1 a ha3) (vis_c hc (by omega) (by omega)) (by omega)
        have v9 := hv a ha3
        have hgp := hg a ha3
        rw [if_neg (show ¬ (3 : Int32) ≤ nI a from nI_ge (b := 3) ha3 (by omega)), ck_nI ha3 (by decide), ck_nI ha3 (by decide), ck_nI ha3 (by decide), nI_clamp (by omega), hval, xl_v, nI_1, xl_v]
        have hvi : (nI (G (5 + 46 * c + a))).toInt64.toInt = (G (5 + 46 * c + a) : Int) := by rw [Jvm.Kit.i64_of_i32, nI_toInt (by omega)]
        have p1 := mul9 (t := t) v9
        have p2 := mul9 (t := prev) v9
        have pm : (G (5 + 46 * c + a) : Int) * ((t : Int) - prev) = (G (5 + 46 * c + a) : Int) * t - (G (5 + 46 * c + a) : Int) * prev := Int.mul_sub _ _ _
        have em : ((nI (G (5 + 46 * c + a))).toInt64 * m.toInt64).toInt = (G (5 + 46 * c + a) : Int) * t - (G (5 + 46 * c + a) : Int) * prev := by
          rw [Jvm.Kit.i64_mul (by rw [hvi, hmi, pm]; omega) (by rw [hvi, hmi, pm]; omega), hvi, hmi, pm]
        have old := k4 a (Nat.le_refl _) ha3
        have e9 : (M2.2 1477 a - (nI (G (5 + 46 * c + a))).toInt64 * m.toInt64).toInt = gsub G g c t a := by
          have t1 : gsub G g c t a = g a - (G (5 + 46 * c + a) : Int) * (t : Int) := rfl
          have t2 : gsub G g c prev a = g a - (G (5 + 46 * c + a) : Int) * (prev : Int) := rfl
          rw [Jvm.Kit.i64_sub (by rw [old, em]; omega) (by rw [old, em]; omega), old, em, t1, t2]
          omega
        refine ih (a + 1) _ (by omega) (by omega) k1 (fun k hk => (if_neg hk).trans (k2 k hk)) (fun b hb => ?_) (fun b b1 b2 => ?_)
        · show ((if (1477 : Nat) = 1477 then vp_updL (M2.2 1477) a _ else M2.2 1477) b).toInt = _
          rw [if_pos rfl]
          by_cases e : b = a
          · subst e; rw [pk_uLs]; exact e9
          · rw [pk_uLn e]; exact k3 b (by omega)
        · show ((if (1477 : Nat) = 1477 then vp_updL (M2.2 1477) a _ else M2.2 1477) b).toInt = _
          rw [if_pos rfl, pk_uLn (by omega)]
          exact k4 b (by omega) b2
  unfold F_X8_choose
  rw [ck_nI hc (by decide), nI_clamp (by omega), h5 c hc, hch, xl_v, ← hm]
  exact loop N 0 M (by omega) (by omega) rfl (fun _ _ => rfl) (fun b hb => absurd hb (Nat.not_lt_zero _)) (fun b _ b2 => h4 b b2)
