/-! the class's least correction -/
def frS (M0 M : xM) : Prop := (∀ k, k ≠ 1476 → k ≠ 1478 → M.1 k = M0.1 k) ∧ ∀ k, k ≠ 1477 → M.2 k = M0.2 k
theorem colK_le {G : Nat → Nat} {B : Nat → Nat → Nat → Bool} (hg : GI G B) {k a : Nat} (hk : k < G 3) (ha : a < 3) : colK G k a ≤ 20000 := by
  have hg0 : G 0 ≤ 8 := hg.1.1
  have hk20 : k < 20 := by have := hg.1; omega
  obtain ⟨q1, q2, q3, q4⟩ := (hg.2.2.2.2 k hk20).1 hk
  have hb6 : G (579 + 44 * k + 1) < 6 := by have := hg.1; omega
  have h1 := (hg.2.2.1 _ hb6).1 a ha
  have h2 := sumN_le (f := fun c => G (5 + 46 * c + a) * G (579 + 44 * k + 2 + c)) (b := 1800) (n := G 0) (fun c hc => Nat.mul_le_mul ((hg.2.1 c (by omega)).2.1 a ha) (hg.step200 hk (by omega)).1)
  have h3 : G 0 * 1800 ≤ 8 * 1800 := Nat.mul_le_mul_right _ hg0
  unfold colK
  omega
section
variable {N tol : Nat} {M0 : xM} {r0 : Nat → Int32} {G : Nat → Nat} {B : Nat → Nat → Nat → Bool}
theorem succ_ok {rm : Nat} {g : Nat → Int} (hN : 20 ≤ N) (ht : tol ≤ 99) (hd : DS M0 0 r0 G B) (hrm : rm ≤ 200) (hb : ∀ n, n ≤ 6 → GB g n) {M : xM} {ch : Nat → Nat} (h : LSt M0 M tol g ch) : ∃ M1, frS M0 M1 ∧ ((∃ n w, n ≤ rm ∧ n ≤ 6 ∧ (∀ i, i < n → fw G tol (G 0) 0 i g = none) ∧ fw G tol (G 0) 0 n g = some w ∧ F_X8_succeeds N 0 (nI rm) M = some (M1, 1) ∧ M1.1 1476 2 = nI n ∧ ∀ j, j < 8 → M1.1 1478 j = nI (w j)) ∨ ((∀ i, i ≤ rm → i ≤ 6 → fw G tol (G 0) 0 i g = none) ∧ F_X8_succeeds N 0 (nI rm) M = some (M1, 0))) := by
  obtain ⟨most, hm⟩ : ∃ most, most = (if 6 < rm then 6 else rm) := ⟨_, rfl⟩
  have hml : most ≤ rm ∧ most ≤ 6 ∧ (most = rm ∨ most = 6) := by
    rw [hm]
    split <;> omega
  have R8 := rA8 (N := N) hN ht hd 0 rfl (Nat.zero_le _)
  rw [Nat.sub_zero] at R8
  have search : ∀ n i (M : xM), i ≤ most + 1 → most + 1 < n + i → (∀ j, j < i → fw G tol (G 0) 0 j g = none) → LSt M0 M tol g (fun _ => 0) → ∃ M1, frS M0 M1 ∧ ((∃ q w, q ≤ rm ∧ q ≤ 6 ∧ (∀ j, j < q → fw G tol (G 0) 0 j g = none) ∧ fw G tol (G 0) 0 q g = some w ∧ L_X8_succeeds_31 N 0 n (nI most) (nI i) M = some (M1, 1) ∧ M1.1 1476 2 = nI q ∧ ∀ j, j < 8 → M1.1 1478 j = nI (w j)) ∨ ((∀ j, j ≤ rm → j ≤ 6 → fw G tol (G 0) 0 j g = none) ∧ L_X8_succeeds_31 N 0 n (nI most) (nI i) M = some (M1, 0))) := by
    intro n
    induction n with
    | zero => intro i M a1 a2; omega
    | succ n ih =>
      intro i M a1 a2 a3 h
      rw [L_X8_succeeds_31]
      by_cases hi : i = most + 1
      · rw [if_pos (nI_lt (by omega) (by omega))]
        exact ⟨M, ⟨h.1, h.2.1⟩, Or.inr ⟨fun j j1 j2 => a3 j (by omega), rfl⟩⟩
      · rw [if_neg (nI_nlt (by omega) (by omega))]
        have nx := R8 i g M (fun _ => 0) (by omega) (hb i (by omega)) h (fun _ _ => rfl)
        cases hf : fw G tol (G 0) 0 i g with
        | none =>
          obtain ⟨M2, d1, d2⟩ := nx.1 hf
          rw [show F_X8_reaches8 N 0 0 (nI i) M = some (M2, 0) from d1, xbd_some, if_pos (show (M2, (0 : Int32)).2 = 0 from rfl), nI_1, xl_v]
          exact ih (i + 1) M2 (by omega) (by omega) (fun j hj => by
            by_cases q : j = i
            · rw [q]; exact hf
            · exact a3 j (by omega)) d2
        | some w =>
          obtain ⟨M2, g2, d1, d2⟩ := nx.2 w hf
          rw [show F_X8_reaches8 N 0 0 (nI i) M = some (M2, 1) from d1, xbd_some, if_neg (show ¬ (M2, (1 : Int32)).2 = 0 from by show ¬ (1 : Int32) = 0; decide), xl_v]
          refine ⟨_, ⟨fun k k1 k2 => (xS_ne k1).trans (d2.1 k k1 k2), fun k hk => d2.2.1 k hk⟩, Or.inl ⟨i, w, by omega, by omega, a3, hf, rfl, xS_in, fun j hj => ?_⟩⟩
          exact (congrFun (xS_ne (by omega)) j).trans (d2.2.2.2.2 j hj)
  have clear : ∀ n i (M : xM) (ch : Nat → Nat), i ≤ 8 → 8 < n + i → LSt M0 M tol g ch → (∀ j, j < i → ch j = 0) → ∃ M1, L_X8_succeeds_2 N 0 n (nI rm) (nI i) M = L_X8_succeeds_31 N 0 N (nI most) 0 M1 ∧ LSt M0 M1 tol g (fun _ => 0) := by
    intro n
    induction n with
    | zero => intro i M ch a1 a2; omega
    | succ n ih =>
      intro i M ch a1 a2 h hz
      rw [L_X8_succeeds_2]
      by_cases hi : i = 8
      · subst hi
        refine ⟨M, ?_, h.ch (fun j hj => (hz j hj).symm)⟩
        rw [if_pos (show (8 : Int32) ≤ nI 8 from by decide), show (if (6 : Int32) < nI rm then 6 else nI rm) = nI most from by
          rw [hm]
          by_cases q : 6 < rm
          · rw [if_pos q, if_pos (show (6 : Int32) < nI rm from nI_lt (a := 6) q (by omega))]
            rfl
          · rw [if_neg q, if_neg (show ¬ (6 : Int32) < nI rm from nI_nlt (a := 6) (by omega) (by omega))], xl_v]
      · rw [if_neg (show ¬ (8 : Int32) ≤ nI i from nI_ge (b := 8) (by omega) (by omega)), ck_nI (by omega) (by decide), nI_clamp (by omega), xl_v, nI_1, xl_v]
        refine ih (i + 1) _ (updN ch i 0) (by omega) (by omega) ⟨fun k k1 k2 => (xS_ne k2).trans (h.1 k k1 k2), h.2.1, (congrFun (xS_ne (by omega)) _).trans h.2.2.1, h.2.2.2.1, fun j hj => ?_⟩ (fun j hj => ?_)
        · rw [xS_at]
          by_cases q : j = i
          · subst q; rw [pk_us, updN_s]; rfl
          · rw [pk_un q, updN_n q]; exact h.2.2.2.2 j hj
        · by_cases q : j = i
          · subst q; exact updN_s
          · rw [updN_n q]; exact hz j (by omega)
  obtain ⟨M2, c1, c2⟩ := clear N 0 M ch (by omega) (by omega) h (fun j hj => absurd hj (Nat.not_lt_zero _))
  obtain ⟨M1, z1, z2⟩ := search N 0 M2 (Nat.zero_le _) (by omega) (fun j hj => absurd hj (Nat.not_lt_zero _)) c2
  refine ⟨M1, z1, ?_⟩
  have e : F_X8_succeeds N 0 (nI rm) M = L_X8_succeeds_31 N 0 N (nI most) (nI 0) M2 := c1
  rw [e]
  exact z2
end
theorem xSL_at {M : xM} {k : Nat} {f : Nat → Int64} : (xSL M k f).2 k = f := if_pos rfl
/-- the distances at the start -/
def gap0 (G : Nat → Nat) (k : Nat) (v2 v3 v4 : Int32) : Nat → Int := fun a => (if a = 0 then v2.toInt else if a = 1 then v3.toInt else v4.toInt) - (colK G k a : Int)
theorem gap0_b {G : Nat → Nat} {B : Nat → Nat → Nat → Bool} (hg : GI G B) {k : Nat} (hk : k < G 3) (v2 v3 v4 : Int32) (n : Nat) (hn : n ≤ 6) : GB (gap0 G k v2 v3 v4) n := fun a ha => by
  have h1 := colK_le hg hk ha
  have b2 := v2.le_toInt
  have b3 := v2.toInt_lt
  have b4 := v3.le_toInt
  have b5 := v3.toInt_lt
  have b6 := v4.le_toInt
  have b7 := v4.toInt_lt
  unfold gap0
  split
  · omega
  · split <;> omega
theorem leastM {N k tol : Nat} {v2 v3 v4 v6 : Int32} {M : xM} {r : Nat → Int32} {G : Nat → Nat} {B : Nat → Nat → Nat → Bool} (hd : DS M 0 r G B) (hN : 30 ≤ N) (ht : tol ≤ 99) (hk : k < G 3) : ∃ M1, frS M M1 ∧ ((∃ n w, n ≤ room G k ∧ n ≤ 6 ∧ (∀ i, i < n → fw G tol (G 0) 0 i (gap0 G k v2 v3 v4) = none) ∧ fw G tol (G 0) 0 n (gap0 G k v2 v3 v4) = some w ∧ L_X9_least_17 N (nI k) v2 v3 v4 (nI tol) v6 M = (if v6 = (-1 : Int32) then some (M1, Sum.inl (nI n)) else xck (xin v6 8) (some (M1, Sum.inl (M1.1 1478 v6.toNatClampNeg)))) ∧ ∀ j, j < 8 → M1.1 1478 j = nI (w j)) ∨ ((∀ i, i ≤ room G k → i ≤ 6 → fw G tol (G 0) 0 i (gap0 G k v2 v3 v4) = none) ∧ L_X9_least_17 N (nI k) v2 v3 v4 (nI tol) v6 M = some (M1, Sum.inr "java/util/NoSuchElementException"))) := by
  have hg := hd.2.2.2.2
  have hk20 : k < 20 := by have := hg.1; omega
  have hrm : room G k ≤ 200 := by
    obtain ⟨q1, q2, q3, q4⟩ := (hg.2.2.2.2 k hk20).1 hk
    have hb6 : G (579 + 44 * k + 1) < 6 := by have := hg.1; omega
    have := (hg.2.2.1 _ hb6).2.1
    unfold room
    omega
  have dL : ∀ {M2 : xM}, M2.1 = M.1 → (∀ q, q ≠ 1477 → M2.2 q = M.2 q) → DS M2 0 r G B := fun h1 h2 => hd.cong (fun q hq => by rw [h1]) (fun q hq => h2 _ (by omega)) (fun _ _ => rfl)
  have col : ∀ {M2 : xM} (a : Nat), a < 3 → DS M2 0 r G B → F_X3_colourOf N 0 (87 + 3 * k) (nI a) M2 = some (M2, nI (colK G k a)) := fun a ha h2 => h2.colour (by omega) hk ha rfl
  obtain ⟨Ma, hMa⟩ : ∃ Ma, Ma = xSL M 1477 (vp_updL (M.2 1477) 0 (v2.toInt64 - (nI (colK G k 0)).toInt64)) := ⟨_, rfl⟩
  obtain ⟨Mb, hMb⟩ : ∃ Mb, Mb = xSL Ma 1477 (vp_updL (Ma.2 1477) 1 (v3.toInt64 - (nI (colK G k 1)).toInt64)) := ⟨_, rfl⟩
  obtain ⟨Mc, hMc⟩ : ∃ Mc, Mc = xSL Mb 1477 (vp_updL (Mb.2 1477) 2 (v4.toInt64 - (nI (colK G k 2)).toInt64)) := ⟨_, rfl⟩
  obtain ⟨Md, hMd⟩ : ∃ Md, Md = xS Mc 1476 (upd (Mc.1 1476) 1 (nI tol)) := ⟨_, rfl⟩
  have a1 : Ma.1 = M.1 := by rw [hMa]; rfl
  have a2 : ∀ q, q ≠ 1477 → Ma.2 q = M.2 q := fun q hq => by rw [hMa]; exact if_neg hq
  have b1 : Mb.1 = M.1 := by rw [hMb]; exact a1
  have b2 : ∀ q, q ≠ 1477 → Mb.2 q = M.2 q := fun q hq => by rw [hMb]; exact (if_neg hq).trans (a2 q hq)
  have c1 : Mc.1 = M.1 := by rw [hMc]; exact b1
  have c2 : ∀ q, q ≠ 1477 → Mc.2 q = M.2 q := fun q hq => by rw [hMc]; exact (if_neg hq).trans (b2 q hq)
  have sub : ∀ (v : Int32) (a : Nat), a < 3 → (v.toInt64 - (nI (colK G k a)).toInt64).toInt = v.toInt - (colK G k a : Int) := fun v a ha => by
    have := colK_le hg hk ha
    rw [lg_i2l_sub, nI_toInt (by omega)]
  have vA : ∀ x, Ma.2 1477 x = vp_updL (M.2 1477) 0 (v2.toInt64 - (nI (colK G k 0)).toInt64) x := fun x => by rw [hMa, xSL_at]
  have vB : ∀ x, Mb.2 1477 x = vp_updL (Ma.2 1477) 1 (v3.toInt64 - (nI (colK G k 1)).toInt64) x := fun x => by rw [hMb, xSL_at]
  have vC : ∀ x, Mc.2 1477 x = vp_updL (Mb.2 1477) 2 (v4.toInt64 - (nI (colK G k 2)).toInt64) x := fun x => by rw [hMc, xSL_at]
  have hL : LSt M Md tol (gap0 G k v2 v3 v4) (GR (M.1 1478)) := by
    refine ⟨fun q q1 q2 => by rw [hMd, xS_ne q1, c1], fun q hq => by rw [hMd]; exact c2 q hq, by rw [hMd]; exact xS_in, fun a ha => ?_, fun j _ => by rw [hMd, xS_ne (by omega), c1, nI_GR]⟩
    rw [hMd]
    show (Mc.2 1477 a).toInt = _
    have : a = 0 ∨ a = 1 ∨ a = 2 := by omega
    rcases this with rfl | rfl | rfl
    · rw [vC, pk_uLn (by omega), vB, pk_uLn (by omega), vA, pk_uLs, sub v2 0 (by omega)]
      rfl
    · rw [vC, pk_uLn (by omega), vB, pk_uLs, sub v3 1 (by omega)]
      rfl
    · rw [vC, pk_uLs, sub v4 2 (by omega)]
      rfl
  have dd : DS Md 0 r G B := hd.cong (fun q hq => by rw [hMd, xS_ne (by omega), c1]) (fun q hq => by rw [hMd]; exact c2 _ (by omega)) (fun _ _ => rfl)
  have rg : ∀ M2, F_X9_requireRange N (nI tol) 0 99 M2 = some (M2, Sum.inl 0) := fun M2 => by
    unfold F_X9_requireRange
    rw [if_neg (nI_pos (by omega)), if_pos (show nI tol ≤ (99 : Int32) from nI_le (b := 99) ht (by omega))]
  obtain ⟨M1, z1, z2⟩ := succ_ok (N := N) (rm := room G k) (by omega) ht hd hrm (fun n hn => gap0_b hg hk v2 v3 v4 n hn) hL
  have e17 : ∀ x : Int32, F_X8_succeeds N 0 (nI (room G k)) Md = some (M1, x) → L_X9_least_17 N (nI k) v2 v3 v4 (nI tol) v6 M = (if x = 0 then some (M1, Sum.inr "java/util/NoSuchElementException") else (if v6 = (-1 : Int32) then some (M1, Sum.inl (M1.1 1476 2)) else xck (xin v6 8) (some (M1, Sum.inl (M1.1 1478 v6.toNatClampNeg))))) := fun x hx => by
    unfold L_X9_least_17
    rw [rg, xbd_some, xth_inl, ck_nI hk20 (by decide), nI_clamp (by omega), show (0 : Nat) + 87 + 3 * k = 87 + 3 * k by omega, show F_X3_colourOf N 0 (87 + 3 * k) 0 M = some (M, nI (colK G k 0)) from col 0 (by omega) hd, xbd_some, show xSL (M, nI (colK G k 0)).1 1477 (vp_updL ((M, nI (colK G k 0)).1.2 1477) (0 : Int32).toNatClampNeg (v2.toInt64 - ((M, nI (colK G k 0)).2).toInt64)) = Ma from hMa.symm, xl_v, show F_X3_colourOf N 0 (87 + 3 * k) 1 Ma = some (Ma, nI (colK G k 1)) from col 1 (by omega) (dL a1 a2), xbd_some, show xSL (Ma, nI (colK G k 1)).1 1477 (vp_updL ((Ma, nI (colK G k 1)).1.2 1477) (1 : Int32).toNatClampNeg (v3.toInt64 - ((Ma, nI (colK G k 1)).2).toInt64)) = Mb from hMb.symm, xl_v, show F_X3_colourOf N 0 (87 + 3 * k) 2 Mb = some (Mb, nI (colK G k 2)) from col 2 (by omega) (dL b1 b2), xbd_some, show xSL (Mb, nI (colK G k 2)).1 1477 (vp_updL ((Mb, nI (colK G k 2)).1.2 1477) (2 : Int32).toNatClampNeg (v4.toInt64 - ((Mb, nI (colK G k 2)).2).toInt64)) = Mc from hMc.symm, xl_v, ← hMd, xl_v, dd.room (by omega) hk rfl, xbd_some]
    dsimp only
    rw [hx, xbd_some]
  refine ⟨M1, z1, ?_⟩
  rcases z2 with ⟨n, w, y1, y2, y3, y4, y5, y6, y7⟩ | ⟨y1, y2⟩
  · refine Or.inl ⟨n, w, y1, y2, y3, y4, ?_, y7⟩
    rw [e17 1 y5, if_neg (show ¬ (1 : Int32) = 0 from by decide), y6]
  · refine Or.inr ⟨y1, ?_⟩
    rw [e17 0 y2, if_pos rfl]
