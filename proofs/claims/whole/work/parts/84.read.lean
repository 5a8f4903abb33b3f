/-! a whole text -/
section
variable {N t : Nat} {T : Nat → Nat}
theorem initM {M0 : xM} : ∀ n i (M : xM) (A : Nat → Int32) (bs : Int32), i ≤ 10 → 10 < n + i → PM T t M0 M 0 bs A → (∀ j, j < i → A j = -1) → ∃ M1 m, L_X5_readAll_7 N n (nI i) M = L_X5_readAll_7 N (m + 1) (nI 10) M1 ∧ PM T t M0 M1 0 bs (fun _ => -1) := by
  intro n
  induction n with
  | zero => intro i M A bs a1 a2; omega
  | succ n ih =>
    intro i M A bs a1 a2 h hA
    by_cases hi : i = 10
    · subst hi
      obtain ⟨b1, b2, b3, b4, b5, b6, b7⟩ := h
      exact ⟨M, n, rfl, b1, b2, b3, b4, fun j hj => (b5 j hj).trans (hA j hj), b6, b7⟩
    · rw [L_X5_readAll_7, if_neg (show ¬ (10 : Int32) ≤ nI i from nI_ge (b := 10) (by omega) (by omega)), ck_nI (by omega) (by decide), nI_clamp (by omega), xl_v, nI_1, xl_v]
      refine ih (i + 1) _ _ bs (by omega) (by omega) h.tab (fun j hj => ?_)
      by_cases e : j = i
      · subst e; exact pk_us
      · rw [pk_un e]; exact hA j (by omega)
theorem initR {R0 : xM} : ∀ n i (R : xM) (A : Nat → Int32), i ≤ 10 → 10 < n + i → (∀ k, k ≠ 0 → k ≠ 6 → R.1 k = R0.1 k) → R.1 0 = R0.1 0 → (∀ j, j < 10 → R.1 6 j = A j) → (∀ j, j < i → A j = -1) → ∃ R1 m, L_X10_readsText_2 N n (nI i) R = L_X10_readsText_2 N (m + 1) (nI 10) R1 ∧ (∀ k, k ≠ 0 → k ≠ 6 → R1.1 k = R0.1 k) ∧ R1.1 0 = R0.1 0 ∧ ∀ j, j < 10 → R1.1 6 j = -1 := by
  intro n
  induction n with
  | zero => intro i M A a1 a2; omega
  | succ n ih =>
    intro i R A a1 a2 h1 h2 h3 hA
    by_cases hi : i = 10
    · subst hi
      exact ⟨R, n, rfl, h1, h2, fun j hj => (h3 j hj).trans (hA j hj)⟩
    · rw [L_X10_readsText_2, if_neg (show ¬ (10 : Int32) ≤ nI i from nI_ge (b := 10) (by omega) (by omega)), ck_nI (by omega) (by decide), nI_clamp (by omega), xl_v, nI_1, xl_v]
      refine ih (i + 1) _ (upd A i (-1)) (by omega) (by omega) (fun k k1 k2 => (xS_ne k2).trans (h1 k k1 k2)) ((xS_ne (by omega)).trans h2) (fun j hj => ?_) (fun j hj => ?_)
      · rw [xS_at]
        by_cases e : j = i
        · subst e; rw [pk_us, pk_us]
        · rw [pk_un e, pk_un e]; exact h3 j hj
      · by_cases e : j = i
        · subst e; exact pk_us
        · rw [pk_un e]; exact hA j (by omega)
theorem jText {M R : xM} (hN : 200 ≤ N) (hT : TT T t) (m1 : M.1 1473 1 = nI t) (m2 : ∀ i, i < t → M.1 1474 i = nI (T i)) (r1 : R.1 0 10 = nI t) (r2 : ∀ i, i < t → R.1 5 i = nI (T i)) : ∃ M1 R1, (F_X5_readAll N M = some (M1, -1) ∧ ∃ b p A, b < 10 ∧ okA A ∧ F_X10_readsText N R = some (R1, nI b) ∧ PM T t M M1 p (nI b) A ∧ PR T t R R1 p 0 A) ∨ (∃ q bs v A1 A2, F_X5_readAll N M = some (M1, nI q) ∧ F_X10_readsText N R = some (R1, v) ∧ PM T t M M1 q bs A1 ∧ PR T t R R1 q 1 A2) := by
  have ht := hT.1
  -- cleared
  obtain ⟨Ma, hMa⟩ : ∃ Ma, Ma = xS M 1473 (upd (M.1 1473) 2 0) := ⟨_, rfl⟩
  have ha : PM T t M Ma 0 (M.1 1473 3) (M.1 1475) := by
    rw [hMa]
    exact ⟨⟨rfl, fun k k1 _ => xS_ne k1⟩, (xS_f (by omega)).trans m1, xS_in, xS_f (by omega), fun i _ => congrFun (xS_ne (by omega)) i, fun i hi => (congrFun (xS_ne (by omega)) i).trans (m2 i hi), Nat.zero_le _⟩
  obtain ⟨Mb, n1, b1, b2⟩ := initM (N := N) N 0 Ma _ _ (Nat.zero_le _) (by omega) ha (fun j hj => absurd hj (Nat.not_lt_zero _))
  obtain ⟨Ra, n2, c1, c2, c3, c4⟩ := initR (N := N) (R0 := R) N 0 R (R.1 6) (Nat.zero_le _) (by omega) (fun _ _ _ => rfl) rfl (fun _ _ => rfl) (fun j hj => absurd hj (Nat.not_lt_zero _))
  obtain ⟨Rb, hRb⟩ : ∃ Rb, Rb = xS Ra 0 (upd (Ra.1 0) 12 0) := ⟨_, rfl⟩
  obtain ⟨Rc, hRc⟩ : ∃ Rc, Rc = xS Rb 0 (upd (Rb.1 0) 13 0) := ⟨_, rfl⟩
  have hr : PR T t R Rc 0 0 (fun _ => -1) := by
    refine ⟨⟨fun k k1 k2 => ?_, fun s s1 s2 => ?_⟩, ?_, ?_, ?_, fun i hi => ?_, fun i hi => ?_, Nat.zero_le _⟩
    · rw [hRc, xS_ne k1, hRb, xS_ne k1, c2 k k1 k2]
    · rw [hRc, xS_f s2, hRb, xS_f s1, c3]
    · rw [hRc, xS_f (by omega), hRb, xS_f (by omega), c3]; exact r1
    · rw [hRc, xS_f (by omega), hRb]; exact xS_in
    · rw [hRc]; exact xS_in
    · rw [hRc, xS_ne (by omega), hRb, xS_ne (by omega)]; exact c4 i hi
    · rw [hRc, xS_ne (by omega), hRb, xS_ne (by omega), c2 5 (by omega) (by omega)]; exact r2 i hi
  have hA0 : okA (fun _ => -1) := fun i _ => Or.inl rfl
  have fX : F_X5_readAll N M = xbd (F_X5_takeBase N Mb) (fun (r2 : xR) => (if r2.2 = 0 then some (r2.1, (r2.1.1 1473 2)) else xbd (F_X5_takeParts N r2.1) (fun (r4 : xR) => (if r4.2 = 0 then some (r4.1, (r4.1.1 1473 2)) else some (r4.1, (-1)))))) := by
    unfold F_X5_readAll
    rw [← hMa, xl_v, show L_X5_readAll_7 N N 0 Ma = _ from b1, L_X5_readAll_7, if_pos (show (10 : Int32) ≤ nI 10 from by decide)]
  have fR : F_X10_readsText N R = xbd (F_X10_reads N 98 Rc) (fun (r4 : xR) => (if (r4.1.1 0 13) = 0 then xbd (F_X10_readsDigit N r4.1) (fun (r6 : xR) => L_X10_readsText_52 N (r6.2) r6.1) else L_X10_readsText_52 N 0 r4.1)) := by
    unfold F_X10_readsText
    rw [show L_X10_readsText_2 N N 0 R = _ from c1, L_X10_readsText_2, if_pos (show (10 : Int32) ≤ nI 10 from by decide), ← hRb, xl_v, ← hRc, xl_v]
  obtain ⟨n, hn⟩ : ∃ n, N = n + 1 := ⟨N - 1, by omega⟩
  -- the reference, once it is wrong
  have wr52 : ∀ {p : Nat} {R' : xM} {A : Nat → Int32} (v : Int32), PR T t R R' p 1 A → ∃ R1, L_X10_readsText_52 N v R' = some (R1, v) ∧ PR T t R R1 p 1 A := fun {p R' A} v h => by
    obtain ⟨R3, g3, g4⟩ := reads_w (N := N) (x := 58) hT h
    obtain ⟨R4, g5, g6⟩ := end72 (N := N) hT g4 (Or.inr rfl) n v
    refine ⟨R4, ?_, ?_⟩
    · unfold L_X10_readsText_52 L_X10_readsText_71
      rw [g3, xbd_some, if_neg (show ¬ (R3, (0 : Int32)).1.1 0 13 = 0 from by show ¬ R3.1 0 13 = 0; rw [g4.2.2.2.1]; decide)]
      rw [show L_X10_readsText_72 N N v 0 (R3, (0 : Int32)).1 = L_X10_readsText_72 N (n + 1) v 0 R3 from by rw [← hn]]
      exact g5
    · split at g6
      · exact g6
      · exact g6
  by_cases h1 : 0 < t ∧ T 0 = 98
  · obtain ⟨M2, f1, f2⟩ := sgM_y (N := N) (x := 98) hT b2 h1.1 h1.2
    obtain ⟨R2, g1, g2⟩ := reads_y (N := N) (x := 98) hT hr h1.1 h1.2
    by_cases h2 : atD T t (0 + 1)
    · obtain ⟨M3, f3, f4⟩ := tdM (N := N) hT f2 h2
      obtain ⟨R3, g3, g4⟩ := rd_y (N := N) hT g2 h2
      have hb : T (0 + 1) - 48 < 10 := by have := h2.2.2; omega
      obtain ⟨b, hbe⟩ : ∃ b, b = T (0 + 1) - 48 := ⟨_, rfl⟩
      rw [← hbe] at hb f3 g3
      obtain ⟨M4, hM4⟩ : ∃ M4, M4 = xS M3 1473 (upd (M3.1 1473) 3 (nI b)) := ⟨_, rfl⟩
      have f5 : PM T t M M4 (0 + 1 + 1) (nI b) (fun _ => -1) := by
        rw [hM4]
        obtain ⟨⟨q1, q2⟩, q3, q4, q5, q6, q7, q8⟩ := f4
        exact ⟨⟨q1, fun k k1 k2 => (xS_ne k1).trans (q2 k k1 k2)⟩, (xS_f (by omega)).trans q3, (xS_f (by omega)).trans q4, xS_in, fun i hi => (congrFun (xS_ne (by omega)) i).trans (q6 i hi), fun i hi => (congrFun (xS_ne (by omega)) i).trans (q7 i hi), q8⟩
      have fB : F_X5_takeBase N Mb = xbd (F_X5_takeSign N 58 M4) (fun (r7 : xR) => xck (xz r7.2) (some (r7.1, r7.2))) := by
        unfold F_X5_takeBase
        rw [show F_X5_takeSign N 98 Mb = some (M2, 1) from f1, xbd_some, if_neg (show ¬ (M2, (1 : Int32)).2 = 0 from by show ¬ (1 : Int32) = 0; decide), show F_X5_isAtDigit N (M2, (1 : Int32)).1 = some (M2, 1) from dM_y hT f2 h2, xbd_some, if_neg (show ¬ (M2, (1 : Int32)).2 = 0 from by show ¬ (1 : Int32) = 0; decide), f3, xbd_some]
        dsimp only
        rw [← hM4, xl_v]
      have fT : F_X10_readsText N R = L_X10_readsText_52 N (nI b) R3 := by
        rw [fR, show F_X10_reads N 98 Rc = some (R2, 0) from g1, xbd_some, if_pos (show (R2, (0 : Int32)).1.1 0 13 = 0 from g2.2.2.2.1)]
        dsimp only
        rw [g3, xbd_some]
      by_cases h3 : 0 + 1 + 1 < t ∧ T (0 + 1 + 1) = 58
      · obtain ⟨M5, f6, f7⟩ := sgM_y (N := N) (x := 58) hT f5 h3.1 h3.2
        obtain ⟨R4, g5, g6⟩ := reads_y (N := N) (x := 58) hT g4 h3.1 h3.2
        obtain ⟨M6, R5, k1, k2⟩ := jPart (N := N) (by omega) hT hA0 f7 g6
        have fX2 : F_X5_readAll N M = xbd (F_X5_takeParts N M5) (fun (r4 : xR) => (if r4.2 = 0 then some (r4.1, (r4.1.1 1473 2)) else some (r4.1, (-1)))) := by
          rw [fX, fB, show F_X5_takeSign N 58 M4 = some (M5, 1) from f6, xbd_some, show xz 1 = true from by decide, xck_t, xbd_some, if_neg (show ¬ (M5, (1 : Int32)).2 = 0 from by show ¬ (1 : Int32) = 0; decide)]
        have fT2 : F_X10_readsText N R = aft N (L_X10_readsText_72 N n) (nI b) R5 := by
          rw [fT]
          unfold L_X10_readsText_52 L_X10_readsText_71
          rw [show F_X10_reads N 58 R3 = some (R4, 0) from g5, xbd_some, if_pos (show (R4, (0 : Int32)).1.1 0 13 = 0 from g6.2.2.2.1), show L_X10_readsText_72 N N (nI b) 1 (R4, (0 : Int32)).1 = L_X10_readsText_72 N (n + 1) (nI b) 1 R4 from by rw [← hn]]
          exact k1 n (nI b)
        rcases k2 with ⟨h4, p1, A1, w1, w2, w3, w4⟩ | ⟨h4, q, A1, A2, w2, w3⟩
        · obtain ⟨M7, R6, z1, z2⟩ := jParts (N := N) (by omega) hT N n 1 p1 M6 R5 A1 (nI b) (by omega) (by omega) (Nat.le_refl _) (by omega) w1 w2 w3
          have fX3 : ∀ x, L_X5_takeParts_7 N N 1 (nI 1) M6 = some (M7, x) → F_X5_readAll N M = (if x = 0 then some (M7, (M7.1 1473 2)) else some (M7, (-1))) := fun x hx => by
            rw [fX2]
            unfold F_X5_takeParts
            rw [h4, xbd_some]
            dsimp only
            rw [xl_v, show L_X5_takeParts_7 N N 1 1 M6 = some (M7, x) from hx, xbd_some]
          refine ⟨M7, R6, ?_⟩
          rcases z2 with ⟨u1, p2, A2, u2, u3, u4⟩ | ⟨u1, q, A2, A3, u3, u4⟩
          · refine Or.inl ⟨?_, b, p2, A2, hb, u2, fT2.trans z1, u3, u4⟩
            rw [fX3 1 u1, if_neg (show ¬ (1 : Int32) = 0 from by decide)]
          · refine Or.inr ⟨q, nI b, nI b, A2, A3, ?_, fT2.trans z1, u3, u4⟩
            rw [fX3 0 u1, if_pos rfl, u3.2.2.1]
        · obtain ⟨m, hm⟩ : ∃ m, n = m + 1 := ⟨n - 1, by omega⟩
          obtain ⟨R6, z1, z2⟩ := aft_w (N := N) hT w3 m (nI b)
          rw [← hm] at z1
          refine ⟨M6, R6, Or.inr ⟨q, nI b, nI b, A1, A2, ?_, fT2.trans z1, w2, z2⟩⟩
          rw [fX2]
          unfold F_X5_takeParts
          rw [h4, xbd_some]
          dsimp only
          rw [xl_v, show L_X5_takeParts_7 N N 0 1 M6 = some (M6, 0) from by
            rw [show L_X5_takeParts_7 N N 0 1 M6 = L_X5_takeParts_7 N (n + 1) 0 1 M6 from by rw [← hn], L_X5_takeParts_7, if_neg (show ¬ (60 : Int32) ≤ 1 from by decide), if_pos rfl]
            rfl, xbd_some, if_pos (show (M6, (0 : Int32)).2 = 0 from rfl)]
          dsimp only
          rw [w2.2.2.1]
      · obtain ⟨R4, g5, g6⟩ := reads_n (N := N) (x := 58) hT g4 (by decide) h3
        obtain ⟨R5, g7, g8⟩ := end72 (N := N) hT g6 (Or.inr rfl) n (nI b)
        refine ⟨M4, R5, Or.inr ⟨0 + 1 + 1, nI b, nI b, _, _, ?_, ?_, f5, by split at g8 <;> exact g8⟩⟩
        · rw [fX, fB, show F_X5_takeSign N 58 M4 = some (M4, 0) from sgM_n (N := N) (x := 58) hT f5 (by decide) h3, xbd_some, show xz 0 = true from by decide, xck_t, xbd_some, if_pos (show (M4, (0 : Int32)).2 = 0 from rfl)]
          dsimp only
          rw [f5.2.2.1]
        · rw [fT]
          unfold L_X10_readsText_52 L_X10_readsText_71
          rw [show F_X10_reads N 58 R3 = some (R4, 0) from g5, xbd_some, if_neg (show ¬ (R4, (0 : Int32)).1.1 0 13 = 0 from by show ¬ R4.1 0 13 = 0; rw [g6.2.2.2.1]; decide), show L_X10_readsText_72 N N (nI b) 0 (R4, (0 : Int32)).1 = L_X10_readsText_72 N (n + 1) (nI b) 0 R4 from by rw [← hn]]
          exact g7
    · obtain ⟨R3, g3, g4⟩ := rd_n (N := N) hT g2 h2
      obtain ⟨R4, g5, g6⟩ := wr52 0 g4
      refine ⟨M2, R4, Or.inr ⟨0 + 1, _, 0, _, _, ?_, ?_, f2, g6⟩⟩
      · rw [fX]
        unfold F_X5_takeBase
        rw [show F_X5_takeSign N 98 Mb = some (M2, 1) from f1, xbd_some, if_neg (show ¬ (M2, (1 : Int32)).2 = 0 from by show ¬ (1 : Int32) = 0; decide), show F_X5_isAtDigit N (M2, (1 : Int32)).1 = some (M2, 0) from dM_n hT f2 h2, xbd_some, if_pos (show (M2, (0 : Int32)).2 = 0 from rfl), xbd_some, if_pos (show (M2, (0 : Int32)).2 = 0 from rfl)]
        dsimp only
        rw [f2.2.2.1]
      · rw [fR, show F_X10_reads N 98 Rc = some (R2, 0) from g1, xbd_some, if_pos (show (R2, (0 : Int32)).1.1 0 13 = 0 from g2.2.2.2.1)]
        dsimp only
        rw [g3, xbd_some]
        exact g5
  · obtain ⟨R2, g1, g2⟩ := reads_n (N := N) (x := 98) hT hr (by decide) h1
    obtain ⟨R4, g5, g6⟩ := wr52 0 g2
    refine ⟨Mb, R4, Or.inr ⟨0, _, 0, _, _, ?_, ?_, b2, g6⟩⟩
    · rw [fX]
      unfold F_X5_takeBase
      rw [show F_X5_takeSign N 98 Mb = some (Mb, 0) from sgM_n (N := N) (x := 98) hT b2 (by decide) h1, xbd_some, if_pos (show (Mb, (0 : Int32)).2 = 0 from rfl), xbd_some, if_pos (show (Mb, (0 : Int32)).2 = 0 from rfl)]
      dsimp only
      rw [b2.2.2.1]
    · rw [fR, show F_X10_reads N 98 Rc = some (R2, 0) from g1, xbd_some, if_neg (show ¬ (R2, (0 : Int32)).1.1 0 13 = 0 from by show ¬ R2.1 0 13 = 0; rw [g2.2.2.2.1]; decide)]
      exact g5
end
