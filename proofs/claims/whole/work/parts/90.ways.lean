/-! the reference tries every way -/
def RW (R0 R : xM) (w : Nat → Nat) : Prop := (∀ p, p ≠ 7 → R.1 p = R0.1 p) ∧ ∀ j, j < 8 → R.1 7 j = nI (w j)
theorem RW.cong {R0 R : xM} {w w2 : Nat → Nat} (h : RW R0 R w) (e : ∀ j, j < 8 → w2 j = w j) : RW R0 R w2 := ⟨h.1, fun j hj => by rw [e j hj]; exact h.2 j hj⟩
theorem RW.put {R0 R : xM} {w : Nat → Nat} (h : RW R0 R w) (c x : Nat) : RW R0 (xS R 7 (upd (R.1 7) c (nI x))) (updN w c x) := by
  refine ⟨fun p hp => (xS_ne hp).trans (h.1 p hp), fun j hj => ?_⟩
  rw [xS_at]
  by_cases e : j = c
  · subst e; rw [pk_us, updN_s]
  · rw [pk_un e, updN_n e]; exact h.2 j hj
def SW (G w : Nat → Nat) (a : Nat) : Nat := sumN (fun j => G (5 + 46 * j + a) * w j) (G 0)
def PW (G : Nat → Nat) (tol : Nat) (g0 : Nat → Int) (w : Nat → Nat) : Prop := (∀ a, a < 3 → -(tol : Int) ≤ g0 a - (SW G w a : Int) ∧ g0 a - (SW G w a : Int) ≤ tol) ∧ ∀ j, j < G 0 → w j ≤ inC G j
section
variable {N tol k : Nat} {M R0 R : xM} {G : Nat → Nat} {B : Nat → Nat → Nat → Bool} {v2 v3 v4 : Int32} {w : Nat → Nat}
theorem and_1 (x : Int32) (h : x = 0 ∨ x = 1) : x &&& 1 = x := by rcases h with rfl | rfl <;> decide
theorem and_0 (x : Int32) : x &&& 0 = 0 := Int32.and_zero
theorem r106 (hN : 30 ≤ N) (hd : DS M 0 (R0.1 1) G B) (h : RW R0 R w) (hw : ∀ j, j < 8 → w j ≤ 6) : ∀ n i, i ≤ G 0 → G 0 < n + i → L_X10_reaches_106 N n 0 (nI i) R = some (R, 0) ∧ ((∀ j, i ≤ j → j < G 0 → w j ≤ inC G j) → L_X10_reaches_106 N n 1 (nI i) R = some (R, 1)) ∧ (¬ (∀ j, i ≤ j → j < G 0 → w j ≤ inC G j) → L_X10_reaches_106 N n 1 (nI i) R = some (R, 0)) := by
  have hg := hd.2.2.2.2
  have hg0 : G 0 ≤ 8 := hg.1.1
  have hR : ∀ i, i < 1460 → R.1 1 i = nI (G i) := fun i hi => by rw [h.1 1 (by omega)]; exact hd.2.2.1 i hi
  have r0 : R.1 1 (0 : Int32).toNatClampNeg = nI (G 0) := hR 0 (by omega)
  intro n
  induction n with
  | zero => intro i a1 a2; omega
  | succ n ih =>
    intro i a1 a2
    by_cases hi : i = G 0
    · have e : ∀ x : Int32, xz x = true → L_X10_reaches_106 N (n + 1) x (nI i) R = some (R, x) := fun x hx => by
        rw [L_X10_reaches_106, r0, if_pos (nI_le (by omega) (by omega)), hx]
        rfl
      exact ⟨e 0 (by decide), fun _ => e 1 (by decide), fun q => absurd (fun j j1 j2 => by omega) q⟩
    · have hi8 : i < 8 := by omega
      have l1 := inC_le hg hi8
      have l2 := hw i hi8
      obtain ⟨i1, i2, i3⟩ := ih (i + 1) (by omega) (by omega)
      have e : ∀ x : Int32, L_X10_reaches_106 N (n + 1) x (nI i) R = (if w i ≤ inC G i then L_X10_reaches_106 N n (x &&& 1) (nI (i + 1)) R else L_X10_reaches_106 N n (x &&& 0) (nI (i + 1)) R) := fun x => by
        rw [L_X10_reaches_106, r0, if_neg (nI_ge (a := i) (by omega) (by omega)), ck_nI hi8 (by decide), inCanister_ok (by omega) hR hi8 (hg.2.1 i hi8).1, xbd_some, nI_clamp (by omega), h.2 i hi8]
        dsimp only
        unfold L_X10_reaches_139
        by_cases q : w i ≤ inC G i
        · rw [if_neg (nI_nlt q (by omega)), if_pos q, xl_v, nI_1, xl_v]
        · rw [if_pos (nI_lt (by omega) (by omega)), if_neg q, xl_v, nI_1, xl_v]
      refine ⟨?_, fun q => ?_, fun q => ?_⟩
      · rw [e 0, and_1 0 (Or.inl rfl), and_0]
        split
        · exact i1
        · exact i1
      · rw [e 1, if_pos (q i (Nat.le_refl _) (by omega)), and_1 1 (Or.inr rfl)]
        exact i2 (fun j j1 j2 => q j (by omega) j2)
      · rw [e 1]
        by_cases q2 : w i ≤ inC G i
        · rw [if_pos q2, and_1 1 (Or.inr rfl)]
          refine i3 (fun q3 => q (fun j j1 j2 => ?_))
          by_cases e2 : j = i
          · rw [e2]; exact q2
          · exact q3 j (by omega) j2
        · rw [if_neg q2, and_0]
          exact i1
theorem reaches_ok (hN : 30 ≤ N) (ht : tol ≤ 99) (hd : DS M 0 (R0.1 1) G B) (hk : k < G 3) (h8 : R0.1 8 0 = v2 ∧ R0.1 8 1 = v3 ∧ R0.1 8 2 = v4) (h : RW R0 R w) (hw : ∀ j, j < 8 → w j ≤ 6) : (PW G tol (gap0 G k v2 v3 v4) w → F_X10_reaches N (nI k) (nI tol) R = some (R, 1)) ∧ (¬ PW G tol (gap0 G k v2 v3 v4) w → F_X10_reaches N (nI k) (nI tol) R = some (R, 0)) := by
  have hg := hd.2.2.2.2
  have hg0 : G 0 ≤ 8 := hg.1.1
  have hR : ∀ i, i < 1460 → R.1 1 i = nI (G i) := fun i hi => by rw [h.1 1 (by omega)]; exact hd.2.2.1 i hi
  have hdR : DS M 0 (R.1 1) G B := by rw [h.1 1 (by omega)]; exact hd
  have r0 : R.1 1 (0 : Int32).toNatClampNeg = nI (G 0) := hR 0 (by omega)
  have tgt : ∀ a, a < 3 → ((R.1 8 a).toInt : Int) - (colK G k a : Int) = gap0 G k v2 v3 v4 a := fun a ha => by
    rw [h.1 8 (by omega)]
    have : a = 0 ∨ a = 1 ∨ a = 2 := by omega
    rcases this with rfl | rfl | rfl
    · rw [h8.1]; rfl
    · rw [h8.2.1]; rfl
    · rw [h8.2.2]; rfl
  have test : ∀ a, Decidable (-(tol : Int) ≤ gap0 G k v2 v3 v4 a - (SW G w a : Int) ∧ gap0 G k v2 v3 v4 a - (SW G w a : Int) ≤ tol) := fun a => inferInstance
  -- one axis
  have axis : ∀ n a (x : Int32), a < 3 → L_X10_reaches_5 N (n + 1) (nI k) (nI tol) x (nI a) R = (if -(tol : Int) ≤ gap0 G k v2 v3 v4 a - (SW G w a : Int) ∧ gap0 G k v2 v3 v4 a - (SW G w a : Int) ≤ tol then L_X10_reaches_5 N n (nI k) (nI tol) (x &&& 1) (nI (a + 1)) R else L_X10_reaches_5 N n (nI k) (nI tol) (x &&& 0) (nI (a + 1)) R) := fun n a x ha => by
    have hck := colK_le hg hk ha
    have hb := (R.1 8 a).le_toInt
    have hb2 := (R.1 8 a).toInt_lt
    have sle : ∀ i, i ≤ 8 → sumN (fun j => G (5 + 46 * j + a) * w j) i ≤ i * 54 := fun i hi8 => sumN_le (fun j hj => Nat.mul_le_mul ((hg.2.1 j (by omega)).2.1 a ha) (hw j (by omega)))
    have inner : ∀ m i (y : Int64), i ≤ G 0 → G 0 < m + i → y.toInt = (colK G k a : Int) - (R.1 8 a).toInt + (sumN (fun j => G (5 + 46 * j + a) * w j) i : Nat) → ∃ y2 : Int64, y2.toInt = (colK G k a : Int) - (R.1 8 a).toInt + (SW G w a : Int) ∧ L_X10_reaches_33 N (L_X10_reaches_5 N n) m (nI k) (nI tol) x (nI a) y (nI i) R = (if 0 < (lg_cmp y2 (nI tol).toInt64) then L_X10_reaches_94 N (L_X10_reaches_95 N (L_X10_reaches_5 N n)) (nI k) (nI tol) (nI a) x R else (if 0 < (lg_cmp (-y2) (nI tol).toInt64) then L_X10_reaches_94 N (L_X10_reaches_95 N (L_X10_reaches_5 N n)) (nI k) (nI tol) (nI a) x R else L_X10_reaches_95 N (L_X10_reaches_5 N n) (nI k) (nI tol) (nI a) 1 x R)) := by
      intro m
      induction m with
      | zero => intro i y a1 a2; omega
      | succ m ih =>
        intro i y a1 a2 hy
        rw [L_X10_reaches_33, r0]
        by_cases hi : i = G 0
        · rw [if_pos (nI_le (by omega) (by omega))]
          rw [hi] at hy
          exact ⟨y, hy, rfl⟩
        · have hi8 : i < 8 := by omega
          have v9 := (hg.2.1 i hi8).2.1 a ha
          have w6 := hw i hi8
          have s1 := sle i (by omega)
          have pw : G (5 + 46 * i + a) * w i ≤ 54 := Nat.mul_le_mul v9 w6
          rw [if_neg (nI_ge (a := i) (by omega) (by omega)), rdC hR hi8 (by omega), xbd_some]
          dsimp only
          rw [ck_nI hi8 (by decide), nI_clamp (by omega), h.2 i hi8, pk_mul, xl_v, nI_1, xl_v]
          refine ih (i + 1) _ (by omega) (by omega) ?_
          have ep : ((nI (G (5 + 46 * i + a) * w i)).toInt64).toInt = ((G (5 + 46 * i + a) * w i : Nat) : Int) := by rw [Jvm.Kit.i64_of_i32, nI_toInt (by omega)]
          have es : sumN (fun j => G (5 + 46 * j + a) * w j) (i + 1) = sumN (fun j => G (5 + 46 * j + a) * w j) i + G (5 + 46 * i + a) * w i := rfl
          rw [Jvm.Kit.i64_add (by rw [hy, ep]; omega) (by rw [hy, ep]; omega), hy, ep, es, Int.natCast_add]
          omega
    have sfin := sle (G 0) hg0
    have sw8 : SW G w a ≤ 432 := by
      have : SW G w a = sumN (fun j => G (5 + 46 * j + a) * w j) (G 0) := rfl
      omega
    rw [L_X10_reaches_5, if_neg (show ¬ (3 : Int32) ≤ nI a from nI_ge (b := 3) ha (by omega)), valueOf_ok (by omega) hdR hk ha, xbd_some, ck_nI ha (by decide), nI_clamp (by omega), xl_v]
    have y0 : ((nI (colK G k a)).toInt64 - (R.1 8 a).toInt64).toInt = (colK G k a : Int) - (R.1 8 a).toInt + (sumN (fun j => G (5 + 46 * j + a) * w j) 0 : Nat) := by
      rw [lg_i2l_sub, nI_toInt (by omega)]
      show _ = _ + ((0 : Nat) : Int)
      omega
    obtain ⟨y2, e1, e2⟩ := inner N 0 _ (Nat.zero_le _) (by omega) y0
    rw [show L_X10_reaches_33 N (L_X10_reaches_5 N n) N (nI k) (nI tol) x (nI a) ((R, nI (colK G k a)).2.toInt64 - ((R, nI (colK G k a)).1.1 8 a).toInt64) 0 (R, nI (colK G k a)).1 = _ from e2]
    have tt : ((nI tol).toInt64).toInt = (tol : Int) := by rw [Jvm.Kit.i64_of_i32, nI_toInt (by omega)]
    have ny : (-y2).toInt = -y2.toInt := Jvm.Kit.i64_neg (by rw [e1]; omega)
    have tg := tgt a ha
    have c1 : 0 < lg_cmp y2 (nI tol).toInt64 ↔ (tol : Int) < y2.toInt := by rw [lg_cmp_gt, Int64.lt_iff_toInt_lt, tt]
    have c2 : 0 < lg_cmp (-y2) (nI tol).toInt64 ↔ (tol : Int) < -y2.toInt := by rw [lg_cmp_gt, Int64.lt_iff_toInt_lt, tt, ny]
    unfold L_X10_reaches_94 L_X10_reaches_95
    rw [xl_v, nI_1, xl_v, xl_v, xl_v]
    by_cases q1 : (tol : Int) < y2.toInt
    · rw [if_pos (c1.mpr q1), if_neg (by omega)]
    · rw [if_neg (fun e => q1 (c1.mp e))]
      by_cases q2 : (tol : Int) < -y2.toInt
      · rw [if_pos (c2.mpr q2), if_neg (by omega)]
      · rw [if_neg (fun e => q2 (c2.mp e)), if_pos (by omega)]
  have last : ∀ n (x : Int32), L_X10_reaches_5 N (n + 1) (nI k) (nI tol) x (nI 3) R = L_X10_reaches_106 N N x (nI 0) R := fun n x => by
    rw [L_X10_reaches_5, if_pos (show (3 : Int32) ≤ nI 3 from by decide)]
    rfl
  obtain ⟨n, hn⟩ : ∃ n, N = n + 4 := ⟨N - 4, by omega⟩
  obtain ⟨j1, j2, j3⟩ := r106 hN hd h hw N 0 (Nat.zero_le _) (by omega)
  have e0 : F_X10_reaches N (nI k) (nI tol) R = L_X10_reaches_5 N (n + 3 + 1) (nI k) (nI tol) 1 (nI 0) R := by
    unfold F_X10_reaches
    rw [show n + 3 + 1 = N by omega]
    rfl
  have z : ∀ n a, a ≤ 3 → 3 < n + a → L_X10_reaches_5 N n (nI k) (nI tol) 0 (nI a) R = some (R, 0) := by
    intro n
    induction n with
    | zero => intro a a1 a2; omega
    | succ n ih =>
      intro a a1 a2
      by_cases ha : a = 3
      · rw [ha, last]
        exact j1
      · rw [axis n a 0 (by omega), and_1 0 (Or.inl rfl), and_0]
        split
        · exact ih (a + 1) (by omega) (by omega)
        · exact ih (a + 1) (by omega) (by omega)
  constructor
  · intro ⟨p1, p2⟩
    rw [e0, axis _ 0 1 (by omega), if_pos (p1 0 (by omega)), and_1 1 (Or.inr rfl), axis _ 1 1 (by omega), if_pos (p1 1 (by omega)), and_1 1 (Or.inr rfl), axis _ 2 1 (by omega), if_pos (p1 2 (by omega)), and_1 1 (Or.inr rfl), last]
    exact j2 (fun j _ q => p2 j q)
  · intro hp
    rw [e0, axis _ 0 1 (by omega)]
    by_cases q0 : -(tol : Int) ≤ gap0 G k v2 v3 v4 0 - (SW G w 0 : Int) ∧ gap0 G k v2 v3 v4 0 - (SW G w 0 : Int) ≤ tol
    · rw [if_pos q0, and_1 1 (Or.inr rfl), axis _ 1 1 (by omega)]
      by_cases q1 : -(tol : Int) ≤ gap0 G k v2 v3 v4 1 - (SW G w 1 : Int) ∧ gap0 G k v2 v3 v4 1 - (SW G w 1 : Int) ≤ tol
      · rw [if_pos q1, and_1 1 (Or.inr rfl), axis _ 2 1 (by omega)]
        by_cases q2 : -(tol : Int) ≤ gap0 G k v2 v3 v4 2 - (SW G w 2 : Int) ∧ gap0 G k v2 v3 v4 2 - (SW G w 2 : Int) ≤ tol
        · rw [if_pos q2, and_1 1 (Or.inr rfl), last]
          refine j3 (fun q => hp ⟨fun a ha => ?_, fun j hj => q j (Nat.zero_le _) hj⟩)
          have : a = 0 ∨ a = 1 ∨ a = 2 := by omega
          rcases this with rfl | rfl | rfl
          · exact q0
          · exact q1
          · exact q2
        · rw [if_neg q2, and_0]
          exact z _ 3 (by omega) (by omega)
      · rw [if_neg q1, and_0]
        exact z _ 2 (by omega) (by omega)
    · rw [if_neg q0, and_0]
      exact z _ 1 (by omega) (by omega)
/-- the next way -/
theorem next_1 {c : Nat} (hN : 30 ≤ N) (r0 : R.1 1 0 = nI (G 0)) (hg0 : G 0 ≤ 8) (h : RW R0 R w) (hw : ∀ j, j < 8 → w j ≤ 6) (hc : c + 1 < G 0) (hp : 0 < w c) (hz : ∀ j, c < j → j < G 0 - 1 → w j = 0) : ∃ R1, F_X10_nextWay N R = some (R1, 1) ∧ RW R0 R1 (updN (updN (updN w (G 0 - 1) 0) c (w c - 1)) (c + 1) (w (G 0 - 1) + 1)) := by
  have r0' : R.1 1 (0 : Int32).toNatClampNeg = nI (G 0) := r0
  have loop : ∀ n i, c ≤ i → i < G 0 - 1 → i < n + c → L_X10_nextWay_28 N n (nI (G 0 - 1)) (nI (w (G 0 - 1))) (nI i) R = L_X10_nextWay_47 N (nI (G 0 - 1)) (nI (w (G 0 - 1))) (nI c) R := by
    intro n
    induction n with
    | zero => intro i a1 a2 a3; omega
    | succ n ih =>
      intro i a1 a2 a3
      have w6 := hw i (by omega)
      rw [L_X10_nextWay_28, if_neg (nI_pos (by omega)), ck_nI (show i < 8 by omega) (by decide), nI_clamp (by omega), h.2 i (by omega)]
      by_cases e : i = c
      · subst e
        rw [if_neg (nI_ne0 hp (by omega))]
      · rw [hz i (by omega) a2, if_pos (show nI 0 = (0 : Int32) from rfl), i_m1, xl_v]
        obtain ⟨i', hi'⟩ : ∃ i', i = i' + 1 := ⟨i - 1, by omega⟩
        subst hi'
        rw [nI_pred]
        exact ih i' (by omega) (by omega) (by omega)
  have h1 := h.put (G 0 - 1) 0
  obtain ⟨R1, hR1⟩ : ∃ R1, R1 = xS R 7 (upd (R.1 7) (G 0 - 1) (nI 0)) := ⟨_, rfl⟩
  rw [← hR1] at h1
  have wc : R1.1 7 c = nI (w c) := by rw [h1.2 c (by omega), updN_n (by omega)]
  have h2 := h1.put c (w c - 1)
  obtain ⟨R2, hR2⟩ : ∃ R2, R2 = xS R1 7 (upd (R1.1 7) c (nI (w c - 1))) := ⟨_, rfl⟩
  rw [← hR2] at h2
  refine ⟨_, ?_, h2.put (c + 1) (w (G 0 - 1) + 1)⟩
  unfold F_X10_nextWay L_X10_nextWay_23
  rw [r0', show nI (G 0) - 1 = nI (G 0 - 1) from pk_sub (b := 1) (by omega), xl_v, if_neg (nI_pos (by omega)), ck_nI (show G 0 - 1 < 8 by omega) (by decide), nI_clamp (by omega), h.2 _ (by omega), show nI (G 0 - 1) - 1 = nI (G 0 - 1 - 1) from pk_sub (b := 1) (by omega), xl_v, loop N (G 0 - 1 - 1) (by omega) (by omega) (by omega)]
  unfold L_X10_nextWay_47
  rw [if_pos (nI_pos' (by omega)), ck_nI (show G 0 - 1 < 8 by omega) (by decide), nI_clamp (by omega), show xS R 7 (upd (R.1 7) (G 0 - 1) 0) = R1 from hR1.symm, xl_v, ck_nI (show c < 8 by omega) (by decide), ck_nI (show c < 8 by omega) (by decide), nI_clamp (by omega), wc, show nI (w c) - 1 = nI (w c - 1) from pk_sub (b := 1) (by omega), xl_v, ← hR2, nI_1, ck_nI (show c + 1 < 8 by omega) (by decide), nI_clamp (by omega), nI_1, xl_v]
theorem next_0 (hN : 30 ≤ N) (r0 : R.1 1 0 = nI (G 0)) (hg0 : G 0 ≤ 8) (h : RW R0 R w) (hz : ∀ j, j + 1 < G 0 → w j = 0) : F_X10_nextWay N R = some (R, 0) := by
  have r0' : R.1 1 (0 : Int32).toNatClampNeg = nI (G 0) := r0
  have stop : ∀ n (v x i : Int32), i < 0 → L_X10_nextWay_28 N (n + 1) v x i R = some (R, 0) := fun n v x i hi => by
    rw [L_X10_nextWay_28, if_pos hi]
    unfold L_X10_nextWay_47
    rw [if_neg (by rw [Int32.le_iff_toInt_le]; rw [Int32.lt_iff_toInt_lt] at hi; omega)]
  have loop : ∀ n i (v x : Int32), i + 1 ≤ G 0 → i < n → L_X10_nextWay_28 N (n + 1) v x (nI i - 1) R = some (R, 0) := by
    intro n
    induction n with
    | zero => intro i v x a1 a2; omega
    | succ n ih =>
      intro i v x a1 a2
      cases i with
      | zero => exact stop _ v x _ (by decide)
      | succ i =>
        rw [nI_pred, L_X10_nextWay_28, if_neg (nI_pos (by omega)), ck_nI (show i < 8 by omega) (by decide), nI_clamp (by omega), h.2 i (by omega), hz i (by omega), if_pos (show nI 0 = (0 : Int32) from rfl), i_m1, xl_v]
        exact ih i v x (by omega) (by omega)
  obtain ⟨n, hn⟩ : ∃ n, N = n + 1 := ⟨N - 1, by omega⟩
  unfold F_X10_nextWay L_X10_nextWay_23
  rw [r0']
  by_cases h0 : G 0 = 0
  · rw [h0, xl_v, if_pos (show nI 0 - 1 < (0 : Int32) from by decide), xl_v]
    rw [show L_X10_nextWay_28 N N (nI 0 - 1) 0 (nI 0 - 1 - 1) R = L_X10_nextWay_28 N (n + 1) (nI 0 - 1) 0 (nI 0 - 1 - 1) R from by rw [← hn]]
    exact stop n _ _ _ (by decide)
  · rw [show nI (G 0) - 1 = nI (G 0 - 1) from pk_sub (b := 1) (by omega), xl_v, if_neg (nI_pos (by omega)), ck_nI (show G 0 - 1 < 8 by omega) (by decide), nI_clamp (by omega), xl_v]
    rw [show L_X10_nextWay_28 N N (nI (G 0 - 1)) (R.1 7 (G 0 - 1)) (nI (G 0 - 1) - 1) R = L_X10_nextWay_28 N (n + 1) (nI (G 0 - 1)) (R.1 7 (G 0 - 1)) (nI (G 0 - 1) - 1) R from by rw [← hn]]
    exact loop n (G 0 - 1) _ _ (by omega) (by omega)
end
