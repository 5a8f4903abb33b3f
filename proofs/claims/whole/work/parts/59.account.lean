/-! accounts -/
theorem sumN_ext {f : Nat → Nat} {m : Nat} : ∀ {n : Nat}, m ≤ n → (∀ k, m ≤ k → k < n → f k = 0) → sumN f n = sumN f m
  | 0, h, _ => by rw [show m = 0 by omega]
  | n + 1, h, hz => by
    by_cases e : m = n + 1
    · rw [e]
    · show sumN f n + f n = _
      rw [hz n (by omega) (by omega), sumN_ext (n := n) (by omega) (fun k a b => hz k a (by omega))]
      rfl
section
variable {N : Nat} {M : xM} {R : xM} {r : Nat → Int32} {G : Nat → Nat} {B : Nat → Nat → Nat → Bool}
theorem sumCol_ok {w : Int32} (h : DS M 0 r G B) (hN : 30 ≤ N) {g : Nat → Nat} (hg : ∀ c, c < G 0 → F_X2_numberFor N (0 + 5 + 5 * c) w M = some (M, nI (g c))) : F_X3_sumOfColorants N 0 w M = some (M, nI (sumN g (G 0))) := by
  have hg0 : G 0 ≤ 8 := h.2.2.2.2.1.1
  have m0 := h.n0.1.1
  have loop : ∀ n i, i ≤ G 0 → G 0 < n + i → L_X3_sumOfColorants_4 N 0 n w (nI (sumN g i)) (nI i) M = some (M, nI (sumN g (G 0))) := by
    intro n
    induction n with
    | zero => intro i a1 a2; omega
    | succ n ih =>
      intro i a1 a2
      rw [L_X3_sumOfColorants_4, m0]
      by_cases hi : i = G 0
      · rw [if_pos (nI_le (by omega) (by omega)), hi]
      · rw [if_neg (nI_ge (a := i) (by omega) (by omega)), ck_nI (by omega) (by decide), nI_clamp (by omega), hg i (by omega), xbd_some, nI_add, xl_v, nI_1, xl_v]
        exact ih (i + 1) (by omega) (by omega)
  exact loop N 0 (by omega) (by omega)
theorem sumCan_ok {w : Int32} (h : DS M 0 r G B) (hN : 30 ≤ N) {g : Nat → Nat} (hg : ∀ k, k < G 3 → F_X3_canNumberFor N 0 (0 + 87 + 3 * k) w M = some (M, nI (g k))) : F_X3_sumOfCans N 0 w M = some (M, nI (sumN g (G 3))) := by
  have hg3 : G 3 ≤ 20 := h.2.2.2.2.1.2.2.2.1
  have m3 := h.n0.2.2.2.1.1
  have loop : ∀ n i, i ≤ G 3 → G 3 < n + i → L_X3_sumOfCans_4 N 0 n w (nI (sumN g i)) (nI i) M = some (M, nI (sumN g (G 3))) := by
    intro n
    induction n with
    | zero => intro i a1 a2; omega
    | succ n ih =>
      intro i a1 a2
      rw [L_X3_sumOfCans_4, m3]
      by_cases hi : i = G 3
      · rw [if_pos (nI_le (by omega) (by omega)), hi]
      · rw [if_neg (nI_ge (a := i) (by omega) (by omega)), ck_nI (by omega) (by decide), nI_clamp (by omega), hg i (by omega), xbd_some, nI_add, xl_v, nI_1, xl_v]
        exact ih (i + 1) (by omega) (by omega)
  exact loop N 0 (by omega) (by omega)
theorem sumStock_ok (h : DS M 0 r G B) (hN : 30 ≤ N) : F_X3_sumOfStocks N 0 M = some (M, nI (sumN (fun b => G (373 + 6 * b + 4)) (G 1))) := by
  have hg1 : G 1 ≤ 6 := h.2.2.2.2.1.2.1
  have m1 := h.n0.2.1.1
  have loop : ∀ n i, i ≤ G 1 → G 1 < n + i → L_X3_sumOfStocks_4 N 0 n (nI (sumN (fun b => G (373 + 6 * b + 4)) i)) (nI i) M = some (M, nI (sumN (fun b => G (373 + 6 * b + 4)) (G 1))) := by
    intro n
    induction n with
    | zero => intro i a1 a2; omega
    | succ n ih =>
      intro i a1 a2
      rw [L_X3_sumOfStocks_4, m1]
      by_cases hi : i = G 1
      · rw [if_pos (nI_le (by omega) (by omega)), hi]
      · rw [if_neg (nI_ge (a := i) (by omega) (by omega)), ck_nI (by omega) (by decide), nI_clamp (by omega), h.m (loc_b i (by omega)).2.2 (vis_hi (by omega)) (p := 0 + 45 + 2 * i) (by omega), nI_add, xl_v, nI_1, xl_v]
        exact ih (i + 1) (by omega) (by omega)
  exact loop N 0 (by omega) (by omega)
def carF (G : Nat → Nat) (f : Nat) : Nat := sumN (fun c => G (409 + 17 * f + 9 + c)) 8
theorem sumCarry_ok (h : DS M 0 r G B) (hN : 30 ≤ N) : F_X3_sumOfCarries N 0 M = some (M, nI (sumN (carF G) (G 2))) := by
  have hg := h.2.2.2.2
  have hg0 : G 0 ≤ 8 := hg.1.1
  have hg2 : G 2 ≤ 10 := hg.1.2.2.1
  have m0 := h.n0.1.1
  have m2 := h.n0.2.2.1.1
  have inner : ∀ (K : Int32 → Int32 → xM → Option xR) f a, f < G 2 → ∀ n i, i ≤ G 0 → G 0 < n + i → L_X3_sumOfCarries_14 N 0 K n (nI (a + sumN (fun c => G (409 + 17 * f + 9 + c)) i)) (nI f) (nI i) M = K (nI (a + carF G f)) (nI (f + 1)) M := by
    intro K f a hf n
    have eq : carF G f = sumN (fun c => G (409 + 17 * f + 9 + c)) (G 0) := sumN_ext hg0 (fun k a1 a2 => by
      have := ((hg.2.2.2.1 f (by omega)).2 k a2).2.2
      rcases this with t | t
      · omega
      · exact t.2)
    induction n with
    | zero => intro i a1 a2; omega
    | succ n ih =>
      intro i a1 a2
      rw [L_X3_sumOfCarries_14, m0]
      by_cases hi : i = G 0
      · rw [if_pos (nI_le (by omega) (by omega)), nI_1, xl_v, hi, eq]
      · rw [if_neg (nI_ge (a := i) (by omega) (by omega)), ck_nI (by omega) (by decide), ck_nI (by omega) (by decide), nI_clamp (by omega), nI_clamp (by omega), h.m ((loc_f f (by omega)).2 i (by omega)).2 (vis_hi (by omega)) (p := 0 + 57 + 3 * f + 2) (by omega), nI_add, xl_v, nI_1, xl_v, Nat.add_assoc a]
        exact ih (i + 1) (by omega) (by omega)
  have loop : ∀ n i, i ≤ G 2 → G 2 < n + i → L_X3_sumOfCarries_4 N 0 n (nI (sumN (carF G) i)) (nI i) M = some (M, nI (sumN (carF G) (G 2))) := by
    intro n
    induction n with
    | zero => intro i a1 a2; omega
    | succ n ih =>
      intro i a1 a2
      rw [L_X3_sumOfCarries_4, m2]
      by_cases hi : i = G 2
      · rw [if_pos (nI_le (by omega) (by omega)), hi]
      · rw [if_neg (nI_ge (a := i) (by omega) (by omega))]
        refine (inner (L_X3_sumOfCarries_4 N 0 n) i (sumN (carF G) i) (by omega) N 0 (by omega) (by omega)).trans ?_
        exact ih (i + 1) (by omega) (by omega)
  exact loop N 0 (by omega) (by omega)
/-- the reference's one sum: its stages -/
theorem s170_skip {v1 s : Int32} (h10 : ¬ v1 = 10) (hN : 1 ≤ N) : L_X10_sumOf_170 N N v1 s 0 R = some (R, s) := by
  obtain ⟨n, rfl⟩ : ∃ n, N = n + 1 := ⟨N - 1, by omega⟩
  rw [L_X10_sumOf_170]
  split
  · rfl
  · rfl
theorem s119_ok {v1 : Int32} {a : Nat} {t : Nat → Nat} (r3 : R.1 1 3 = nI (G 3)) (hg3 : G 3 ≤ 20) (hN : 30 ≤ N) (hb : ∀ n i s, i < G 3 → L_X10_sumOf_119 N (n + 1) v1 s (nI i) R = L_X10_sumOf_160 N (L_X10_sumOf_119 N n) v1 (nI i) (nI (t i)) s R) : L_X10_sumOf_117 N v1 (nI a) R = L_X10_sumOf_170 N N v1 (nI (a + sumN t (G 3))) 0 R := by
  have r3' : R.1 1 (3 : Int32).toNatClampNeg = nI (G 3) := r3
  have loop : ∀ n i, i ≤ G 3 → G 3 < n + i → L_X10_sumOf_119 N n v1 (nI (a + sumN t i)) (nI i) R = L_X10_sumOf_170 N N v1 (nI (a + sumN t (G 3))) 0 R := by
    intro n
    induction n with
    | zero => intro i a1 a2; omega
    | succ n ih =>
      intro i a1 a2
      by_cases hi : i = G 3
      · rw [L_X10_sumOf_119, r3', if_pos (nI_le (by omega) (by omega)), hi]
      · rw [hb n i _ (by omega)]
        unfold L_X10_sumOf_160
        rw [nI_add, xl_v, nI_1, xl_v, Nat.add_assoc a]
        exact ih (i + 1) (by omega) (by omega)
  exact loop N 0 (by omega) (by omega)
theorem s119_skip {v1 : Int32} {a : Nat} (r3 : R.1 1 3 = nI (G 3)) (hg3 : G 3 ≤ 20) (hN : 30 ≤ N) (h5 : ¬ v1 = 5) (h9 : ¬ v1 = 9) : L_X10_sumOf_117 N v1 (nI a) R = L_X10_sumOf_170 N N v1 (nI a) 0 R := by
  have r3' : R.1 1 (3 : Int32).toNatClampNeg = nI (G 3) := r3
  have := s119_ok (N := N) (v1 := v1) (a := a) (t := fun _ => 0) r3 hg3 hN (fun n i s hi => by rw [L_X10_sumOf_119, r3', if_neg (nI_ge (a := i) (by omega) (by omega)), if_neg h5, if_neg h9]; rfl)
  rw [sumN_0] at this
  exact this
theorem s86_ok {v1 s : Int32} (h8 : ¬ v1 = 8) (hN : 1 ≤ N) : L_X10_sumOf_86 N N v1 s 0 R = L_X10_sumOf_117 N v1 s R := by
  obtain ⟨n, rfl⟩ : ∃ n, N = n + 1 := ⟨N - 1, by omega⟩
  rw [L_X10_sumOf_86]
  split
  · rfl
  · rfl
theorem s4_ok {v1 : Int32} {t : Nat → Nat} (r0 : R.1 1 0 = nI (G 0)) (hg0 : G 0 ≤ 8) (hN : 30 ≤ N) (hb : ∀ n i s, i < G 0 → L_X10_sumOf_4 N (n + 1) v1 s (nI i) R = L_X10_sumOf_76 N (L_X10_sumOf_4 N n) v1 (nI i) (nI (t i)) s R) : F_X10_sumOf N v1 R = L_X10_sumOf_86 N N v1 (nI (sumN t (G 0))) 0 R := by
  have r0' : R.1 1 (0 : Int32).toNatClampNeg = nI (G 0) := r0
  have loop : ∀ n i, i ≤ G 0 → G 0 < n + i → L_X10_sumOf_4 N n v1 (nI (sumN t i)) (nI i) R = L_X10_sumOf_86 N N v1 (nI (sumN t (G 0))) 0 R := by
    intro n
    induction n with
    | zero => intro i a1 a2; omega
    | succ n ih =>
      intro i a1 a2
      by_cases hi : i = G 0
      · rw [L_X10_sumOf_4, r0', if_pos (nI_le (by omega) (by omega)), hi]
      · rw [hb n i _ (by omega)]
        unfold L_X10_sumOf_76
        rw [nI_add, xl_v, nI_1, xl_v]
        exact ih (i + 1) (by omega) (by omega)
  exact loop N 0 (by omega) (by omega)
theorem s4_skip {v1 : Int32} (r0 : R.1 1 0 = nI (G 0)) (hg0 : G 0 ≤ 8) (hN : 30 ≤ N) (h4 : ¬ v1 = 4) (h6 : ¬ v1 = 6) (h7 : ¬ v1 = 7) (h11 : ¬ v1 = 11) : F_X10_sumOf N v1 R = L_X10_sumOf_86 N N v1 (nI 0) 0 R := by
  have r0' : R.1 1 (0 : Int32).toNatClampNeg = nI (G 0) := r0
  have := s4_ok (N := N) (v1 := v1) (t := fun _ => 0) r0 hg0 hN (fun n i s hi => by rw [L_X10_sumOf_4, r0', if_neg (nI_ge (a := i) (by omega) (by omega)), if_neg h4, if_neg h6, if_neg h7, if_neg h11]; rfl)
  rw [sumN_0] at this
  exact this
theorem s86_8 (hR : ∀ i, i < 1460 → R.1 1 i = nI (G i)) (hg1 : G 1 ≤ 6) (hN : 30 ≤ N) : L_X10_sumOf_86 N N 8 (nI 0) 0 R = L_X10_sumOf_117 N 8 (nI (sumN (fun b => G (373 + 6 * b + 4)) (G 1))) R := by
  have r1 : R.1 1 (1 : Int32).toNatClampNeg = nI (G 1) := hR 1 (by omega)
  have loop : ∀ n i, i ≤ G 1 → G 1 < n + i → L_X10_sumOf_86 N n 8 (nI (sumN (fun b => G (373 + 6 * b + 4)) i)) (nI i) R = L_X10_sumOf_117 N 8 (nI (sumN (fun b => G (373 + 6 * b + 4)) (G 1))) R := by
    intro n
    induction n with
    | zero => intro i a1 a2; omega
    | succ n ih =>
      intro i a1 a2
      rw [L_X10_sumOf_86, r1]
      by_cases hi : i = G 1
      · rw [if_pos (nI_le (by omega) (by omega)), hi]
      · rw [if_neg (nI_ge (a := i) (by omega) (by omega)), if_pos rfl, show F_X10_baseAt N (nI i) 4 R = _ from rdB (k := 4) hR (by omega) (by omega), xbd_some, nI_add, xl_v, nI_1, xl_v]
        exact ih (i + 1) (by omega) (by omega)
  exact loop N 0 (by omega) (by omega)
theorem s170_10 (hR : ∀ i, i < 1460 → R.1 1 i = nI (G i)) (hg2 : G 2 ≤ 10) (hN : 30 ≤ N) : L_X10_sumOf_170 N N 10 (nI 0) 0 R = some (R, nI (sumN (carF G) (G 2))) := by
  have r2 : R.1 1 (2 : Int32).toNatClampNeg = nI (G 2) := hR 2 (by omega)
  have inner : ∀ (K : Int32 → Int32 → Int32 → xM → Option xR) f a, f < 10 → ∀ n i, i ≤ 8 → 8 < n + i → L_X10_sumOf_189 N K n 10 (nI (a + sumN (fun c => G (409 + 17 * f + 9 + c)) i)) (nI f) (nI i) R = K 10 (nI (a + carF G f)) (nI (f + 1)) R := by
    intro K f a hf n
    induction n with
    | zero => intro i a1 a2; omega
    | succ n ih =>
      intro i a1 a2
      rw [L_X10_sumOf_189]
      by_cases hi : i = 8
      · subst hi
        rw [if_pos (show (8 : Int32) ≤ nI 8 from by decide), nI_1, xl_v]
        rfl
      · rw [if_neg (show ¬ (8 : Int32) ≤ nI i from nI_ge (a := i) (b := 8) (by omega) (by omega)), show (((409 : Int32) + 17 * nI f) + 9) + nI i = nI (409 + 17 * f + 9 + i) from by show nI 409 + nI 17 * nI f + nI 9 + nI i = _; rw [pk_mul, nI_add, nI_add, nI_add], ck_nI (by omega) (by decide), nI_clamp (by omega), hR _ (by omega), nI_add, xl_v, nI_1, xl_v, Nat.add_assoc a]
        exact ih (i + 1) (by omega) (by omega)
  have loop : ∀ n i, i ≤ G 2 → G 2 < n + i → L_X10_sumOf_170 N n 10 (nI (sumN (carF G) i)) (nI i) R = some (R, nI (sumN (carF G) (G 2))) := by
    intro n
    induction n with
    | zero => intro i a1 a2; omega
    | succ n ih =>
      intro i a1 a2
      rw [L_X10_sumOf_170, r2]
      by_cases hi : i = G 2
      · rw [if_pos (nI_le (by omega) (by omega)), hi]
      · rw [if_neg (nI_ge (a := i) (by omega) (by omega)), if_pos rfl]
        refine (inner (L_X10_sumOf_170 N n) i (sumN (carF G) i) (by omega) N 0 (by omega) (by omega)).trans ?_
        exact ih (i + 1) (by omega) (by omega)
  exact loop N 0 (by omega) (by omega)
end
theorem o_32 {N : Nat} (hN : 12000 ≤ N) {v1 v2 v3 v4 v5 v6 : Int32} {M R : xM} (h : Rel M R) : ∃ q, zOp_32 N v1 v2 v3 v4 v5 v6 M R = some q ∧ Rel q.1 q.2 := by
  refine zAgr (hd := fun (M8 : xM) (E : String) => if E = "java/lang/IllegalArgumentException" then some (M8, 1) else none) ?_
  obtain ⟨⟨G, B, hd⟩, hx⟩ := id h
  obtain ⟨⟨m0, r0⟩, ⟨m1, r1⟩, ⟨m2, r2⟩, ⟨m3, r3⟩, ⟨m4, r4⟩⟩ := hd.n0
  have hb := hd.2.2.2.2.1
  have hR := hd.2.2.1
  rcases zRange (N := N) v1 0 12 M R with ⟨l1, l2, e3, e4⟩ | ⟨e3, e4⟩
  · obtain ⟨x, hx1, hx2, rfl⟩ := zNat (a := 0) (b := 12) rfl rfl l1 l2
    have fX : F_X9_account N (nI x) M = xbd (F_X3_accountFor N 0 (nI x) M) (fun (r8 : xR) => some (r8.1, Sum.inl r8.2)) := by
      unfold F_X9_account
      rw [e3, xbd_some, xth_inl]
    have fR : 4 ≤ x → x ≠ 12 → F_X10_account N (nI x) R = xbd (F_X10_sumOf N (nI x) R) (fun (r5 : xR) => xbd (F_X10_done N (r5.2) r5.1) (fun (r6 : xR) => some (r6.1, r6.2))) := by
      intro q1 q2
      unfold F_X10_account
      rw [e4, xbd_some, if_neg i1n, if_pos (show (4 : Int32) ≤ nI x from nI_le (a := 4) q1 (by omega)), if_neg (show ¬ nI x = (12 : Int32) from fun e => q2 ((nI_eq (a := x) (b := 12) (by omega) (by omega)).mp e))]
    have fS : ∀ {y : Nat}, 4 ≤ x → x ≠ 12 → F_X10_sumOf N (nI x) R = some (R, nI y) → F_X10_account N (nI x) R = some (xS R 0 (upd (R.1 0) 0 0), nI y) := by
      intro y q1 q2 q3
      rw [fR q1 q2, q3]
      rfl
    have fL : x < 4 → F_X10_account N (nI x) R = some (xS R 0 (upd (R.1 0) 0 0), nI (G x)) := by
      intro q1
      unfold F_X10_account
      rw [e4, xbd_some, if_neg i1n, if_neg (show ¬ (4 : Int32) ≤ nI x from nI_ge (a := x) (b := 4) q1 (by omega)), ck_nI (by omega) (by decide), nI_clamp (by omega), show (R, (1 : Int32)).1.1 1 x = nI (G x) from hR x (by omega)]
      rfl
    have hc9 : x = 0 ∨ x = 1 ∨ x = 2 ∨ x = 3 ∨ x = 4 ∨ x = 5 ∨ x = 6 ∨ x = 7 ∨ x = 8 ∨ x = 9 ∨ x = 10 ∨ x = 11 ∨ x = 12 := by omega
    have hN1 : 1 ≤ N := by omega
    have hN30 : 30 ≤ N := by omega
    have k0 : R.1 1 0 = nI (G 0) := r0
    have k3 : R.1 1 3 = nI (G 3) := r3
    have r0' : R.1 1 (0 : Int32).toNatClampNeg = nI (G 0) := r0
    have r3' : R.1 1 (3 : Int32).toNatClampNeg = nI (G 3) := r3
    have g0 : G 0 ≤ 8 := hb.1
    have g3 : G 3 ≤ 20 := hb.2.2.2.1
    rcases hc9 with rfl | rfl | rfl | rfl | rfl | rfl | rfl | rfl | rfl | rfl | rfl | rfl | rfl
    · refine Agr.ok (v := nI (G 0)) h ?_ (fL (by omega))
      rw [fX]
      unfold F_X3_accountFor
      rw [if_pos (by decide), m0]
      rfl
    · refine Agr.ok (v := nI (G 1)) h ?_ (fL (by omega))
      rw [fX]
      unfold F_X3_accountFor
      rw [if_neg (by decide), if_pos (by decide), m1]
      rfl
    · refine Agr.ok (v := nI (G 2)) h ?_ (fL (by omega))
      rw [fX]
      unfold F_X3_accountFor
      rw [if_neg (by decide), if_neg (by decide), if_pos (by decide), m2]
      rfl
    · refine Agr.ok (v := nI (G 3)) h ?_ (fL (by omega))
      rw [fX]
      unfold F_X3_accountFor
      rw [if_neg (by decide), if_neg (by decide), if_neg (by decide), if_pos (by decide), m3]
      rfl
    · refine Agr.ok (v := nI (sumN (inC G) (G 0))) h ?_ (fS (by omega) (by omega) ?_)
      · rw [fX]
        unfold F_X3_accountFor
        rw [if_neg (by decide), if_neg (by decide), if_neg (by decide), if_neg (by decide), if_pos (by decide), sumCol_ok hd hN30 (g := inC G) (fun c hc => ?_)]
        · rfl
        · unfold F_X2_numberFor
          rw [if_neg (by decide), if_neg (by decide), if_neg (by decide), if_pos (by decide), hd.steps (c := c) (by omega) (by omega) (p := 0 + 5 + 5 * c) (by omega)]
          rfl
      · rw [s4_ok (t := inC G) k0 g0 hN30 (fun n i s hi => ?_), s86_ok (by decide) hN1, s119_skip k3 g3 hN30 (by decide) (by decide), s170_skip (by decide) hN1]
        rw [L_X10_sumOf_4, r0', if_neg (nI_ge (a := i) (by omega) (by omega)), if_pos (by decide), inCanister_ok (c := i) (by omega) hR (by omega) (hd.2.2.2.2.2.1 i (by omega)).1]
        rfl
    · refine Agr.ok (v := nI (0 + sumN (allK G) (G 3))) h ?_ (fS (by omega) (by omega) ?_)
      · rw [fX]
        unfold F_X3_accountFor
        rw [if_neg (by decide), if_neg (by decide), if_neg (by decide), if_neg (by decide), if_neg (by decide), if_pos (by decide), sumCan_ok hd hN30 (g := allK G) (fun k hk => ?_), Nat.zero_add]
        · rfl
        · unfold F_X3_canNumberFor
          rw [if_neg (by decide), if_neg (by decide), if_pos (by decide), hd.allS (k := k) (by omega) (by omega) (p := 0 + 87 + 3 * k) (by omega)]
          rfl
      · rw [s4_skip k0 g0 hN30 (by decide) (by decide) (by decide) (by decide), s86_ok (by decide) hN1, s119_ok (t := allK G) k3 g3 hN30 (fun n i s hi => ?_), s170_skip (by decide) hN1]
        rw [L_X10_sumOf_119, r3', if_neg (nI_ge (a := i) (by omega) (by omega)), if_pos (by decide), allIn_ok (k := i) (by omega) hR (by omega)]
        rfl
    · refine Agr.ok (v := nI (sumN (fun c => G (5 + 46 * c + 4)) (G 0))) h ?_ (fS (by omega) (by omega) ?_)
      · rw [fX]
        unfold F_X3_accountFor
        rw [if_neg (by decide), if_neg (by decide), if_neg (by decide), if_neg (by decide), if_neg (by decide), if_neg (by decide), if_pos (by decide), sumCol_ok hd hN30 (g := fun c => G (5 + 46 * c + 4)) (fun c hc => ?_)]
        · rfl
        · unfold F_X2_numberFor
          rw [if_neg (by decide), if_neg (by decide), if_neg (by decide), if_neg (by decide), if_neg (by decide), if_pos (by decide), hd.m (loc_c c (by omega)).2.2.1 (vis_c (by omega) (by omega) (by omega)) (p := 0 + 5 + 5 * c) (by omega)]
      · rw [s4_ok (t := fun c => G (5 + 46 * c + 4)) k0 g0 hN30 (fun n i s hi => ?_), s86_ok (by decide) hN1, s119_skip k3 g3 hN30 (by decide) (by decide), s170_skip (by decide) hN1]
        rw [L_X10_sumOf_4, r0', if_neg (nI_ge (a := i) (by omega) (by omega)), if_neg (by decide), if_pos (by decide), show F_X10_colorantAt N (nI i) 4 R = _ from rdC (k := 4) hR (by omega) (by omega)]
        rfl
    · refine Agr.ok (v := nI (sumN (fun c => G (5 + 46 * c + 6)) (G 0))) h ?_ (fS (by omega) (by omega) ?_)
      · rw [fX]
        unfold F_X3_accountFor
        rw [if_neg (by decide), if_neg (by decide), if_neg (by decide), if_neg (by decide), if_neg (by decide), if_neg (by decide), if_neg (by decide), if_pos (by decide), sumCol_ok hd hN30 (g := fun c => G (5 + 46 * c + 6)) (fun c hc => ?_)]
        · rfl
        · unfold F_X2_numberFor
          rw [if_neg (by decide), if_neg (by decide), if_neg (by decide), if_neg (by decide), if_neg (by decide), if_neg (by decide), if_neg (by decide), if_pos (by decide), hd.m (loc_c c (by omega)).2.2.2.2.1 (vis_c (by omega) (by omega) (by omega)) (p := 0 + 5 + 5 * c) (by omega)]
      · rw [s4_ok (t := fun c => G (5 + 46 * c + 6)) k0 g0 hN30 (fun n i s hi => ?_), s86_ok (by decide) hN1, s119_skip k3 g3 hN30 (by decide) (by decide), s170_skip (by decide) hN1]
        rw [L_X10_sumOf_4, r0', if_neg (nI_ge (a := i) (by omega) (by omega)), if_neg (by decide), if_neg (by decide), if_pos (by decide), show F_X10_colorantAt N (nI i) 6 R = _ from rdC (k := 6) hR (by omega) (by omega)]
        rfl
    · refine Agr.ok (v := nI (sumN (fun b => G (373 + 6 * b + 4)) (G 1))) h ?_ (fS (by omega) (by omega) ?_)
      · rw [fX]
        unfold F_X3_accountFor
        rw [if_neg (by decide), if_neg (by decide), if_neg (by decide), if_neg (by decide), if_neg (by decide), if_neg (by decide), if_neg (by decide), if_neg (by decide), if_pos (by decide), sumStock_ok hd hN30]
        rfl
      · rw [s4_skip k0 g0 hN30 (by decide) (by decide) (by decide) (by decide), show L_X10_sumOf_86 N N (nI 8) (nI 0) 0 R = _ from s86_8 hR hb.2.1 hN30, s119_skip k3 g3 hN30 (by decide) (by decide), s170_skip (by decide) hN1]
    · refine Agr.ok (v := nI (0 + sumN (fun k => G (579 + 44 * k + 10)) (G 3))) h ?_ (fS (by omega) (by omega) ?_)
      · rw [fX]
        unfold F_X3_accountFor
        rw [if_neg (by decide), if_neg (by decide), if_neg (by decide), if_neg (by decide), if_neg (by decide), if_neg (by decide), if_neg (by decide), if_neg (by decide), if_neg (by decide), if_pos (by decide), sumCan_ok hd hN30 (g := fun k => G (579 + 44 * k + 10)) (fun k hk => ?_), Nat.zero_add]
        · rfl
        · unfold F_X3_canNumberFor
          rw [if_neg (by decide), if_neg (by decide), if_neg (by decide), if_pos (by decide), hd.m (loc_k k (by omega)).2.2.1 (vis_hi (by omega)) (p := 0 + 87 + 3 * k) (by omega)]
      · rw [s4_skip k0 g0 hN30 (by decide) (by decide) (by decide) (by decide), s86_ok (by decide) hN1, s119_ok (t := fun k => G (579 + 44 * k + 10)) k3 g3 hN30 (fun n i s hi => ?_), s170_skip (by decide) hN1]
        rw [L_X10_sumOf_119, r3', if_neg (nI_ge (a := i) (by omega) (by omega)), if_neg (by decide), if_pos (by decide), show F_X10_canAt N (nI i) 10 R = _ from rdK (k := 10) hR (by omega) (by omega)]
        rfl
    · refine Agr.ok (v := nI (sumN (carF G) (G 2))) h ?_ (fS (by omega) (by omega) ?_)
      · rw [fX]
        unfold F_X3_accountFor
        rw [if_neg (by decide), if_neg (by decide), if_neg (by decide), if_neg (by decide), if_neg (by decide), if_neg (by decide), if_neg (by decide), if_neg (by decide), if_neg (by decide), if_neg (by decide), if_pos (by decide), sumCarry_ok hd hN30]
        rfl
      · rw [s4_skip k0 g0 hN30 (by decide) (by decide) (by decide) (by decide), s86_ok (by decide) hN1, s119_skip k3 g3 hN30 (by decide) (by decide)]
        exact s170_10 hR hb.2.2.1 hN30
    · refine Agr.ok (v := nI (sumN (fun c => G (5 + 46 * c + 43)) (G 0))) h ?_ (fS (by omega) (by omega) ?_)
      · rw [fX]
        unfold F_X3_accountFor
        rw [if_neg (by decide), if_neg (by decide), if_neg (by decide), if_neg (by decide), if_neg (by decide), if_neg (by decide), if_neg (by decide), if_neg (by decide), if_neg (by decide), if_neg (by decide), if_neg (by decide), if_pos (by decide), sumCol_ok hd hN30 (g := fun c => G (5 + 46 * c + 43)) (fun c hc => ?_)]
        · rfl
        · unfold F_X2_numberFor
          rw [if_neg (by decide), if_neg (by decide), if_neg (by decide), if_neg (by decide), if_neg (by decide), if_neg (by decide), if_neg (by decide), if_neg (by decide), if_pos (by decide), hd.m (loc_c c (by omega)).2.2.2.2.2.1 (vis_c (by omega) (by omega) (by omega)) (p := 0 + 5 + 5 * c) (by omega)]
      · rw [s4_ok (t := fun c => G (5 + 46 * c + 43)) k0 g0 hN30 (fun n i s hi => ?_), s86_ok (by decide) hN1, s119_skip k3 g3 hN30 (by decide) (by decide), s170_skip (by decide) hN1]
        rw [L_X10_sumOf_4, r0', if_neg (nI_ge (a := i) (by omega) (by omega)), if_neg (by decide), if_neg (by decide), if_neg (by decide), if_pos (by decide), show F_X10_colorantAt N (nI i) 43 R = _ from rdC (k := 43) hR (by omega) (by omega)]
        rfl
    · refine Agr.ok (v := nI (G 4)) h ?_ ?_
      · rw [fX]
        unfold F_X3_accountFor
        rw [if_neg (by decide), if_neg (by decide), if_neg (by decide), if_neg (by decide), if_neg (by decide), if_neg (by decide), if_neg (by decide), if_neg (by decide), if_neg (by decide), if_neg (by decide), if_neg (by decide), if_neg (by decide), m4]
        rfl
      · unfold F_X10_account
        rw [e4, xbd_some, if_neg i1n, if_pos (by decide), if_pos (by decide), show (R, (1 : Int32)).1.1 1 (4 : Int32).toNatClampNeg = nI (G 4) from r4]
        rfl
  · refine Agr.no (E := "java/lang/IllegalArgumentException") (k := 1) (w := 0) h rfl (by decide) ?_ ?_
    · unfold F_X9_account; rw [e3]; rfl
    · unfold F_X10_account; rw [e4]; rfl
