/-! what is read on both sides -/
theorem xbd_some {α β : Type} {y : α} {k : α → Option β} : xbd (some y) k = k y := rfl
theorem xth_inl {M : xM} {v : Int32} {k : xM → Int32 → Option xE} : xth (M, Sum.inl v) k = k M v := rfl
theorem xth_inr {M : xM} {E : String} {k : xM → Int32 → Option xE} : xth (M, Sum.inr E) k = some (M, Sum.inr E) := rfl
theorem xck_t {α : Type} {a : Option α} : xck true a = a := rfl
theorem xl_v {α β : Type} {a : α} {k : α → β} : xl a k = k a := rfl
theorem i10 : ((1 : Int32) = 0) = False := eq_false (by decide)
theorem i00 : ((0 : Int32) = 0) = True := eq_true rfl
theorem i1n {R : xM} : ¬ ((R, (1 : Int32)).2 = 0) := (by decide : ¬ ((1 : Int32) = 0))
theorem xin_nI {m n : Nat} (h : m < n) (hn : n < 2147483648) : xin (nI m) n = true := by
  unfold xin
  refine decide_eq_true ?_
  rw [nI_toInt (by omega)]
  omega
theorem ck_nI {m n : Nat} {α : Type} {a : Option α} (h : m < n) (hn : n < 2147483648) : xck (xin (nI m) n) a = a := by rw [xin_nI h hn]; rfl
theorem DS.m {M : xM} {b : Nat} {r : Nat → Int32} {G : Nat → Nat} {B : Nat → Nat → Nat → Bool} (h : DS M b r G B) {i k s : Nat} (hl : loc i = (k, s) ∧ isP i = true) (hv : vis G i) {p : Nat} (hp : p = b + k) : M.1 p s = nI (G i) := by
  subst hp
  exact h.1.of hl.2 hv hl.1
theorem vis_lo {G : Nat → Nat} {i : Nat} (h : i < 5) : vis G i := fun h1 => absurd h1 (by omega)
theorem vis_hi {G : Nat → Nat} {i : Nat} (h : 373 ≤ i) : vis G i := fun _ h1 => absurd h1 (by omega)
theorem vis_c {G : Nat → Nat} {c r : Nat} (hc : c < 8) (hr : r < 7 ∨ 43 ≤ r) (h46 : r < 46) : vis G (5 + 46 * c + r) := fun _ _ h1 h2 => by omega
theorem vis_l {G : Nat → Nat} {c j t : Nat} (hc : c < 8) (hj : j < 12) (ht : t = 7 ∨ t = 19 ∨ t = 31) (h : j < G (5 + 46 * c + 3)) : vis G (5 + 46 * c + t + j) := fun _ _ h1 h2 => by
  have e1 : (5 + 46 * c + t + j - 5) / 46 = c := by omega
  have e2 : ((5 + 46 * c + t + j - 5) % 46 - 7) % 12 = j := by omega
  rw [e1, e2]
  exact h
theorem DS.n0 {M : xM} {r : Nat → Int32} {G : Nat → Nat} {B : Nat → Nat → Nat → Bool} (h : DS M 0 r G B) : (M.1 0 4 = nI (G 0) ∧ r 0 = nI (G 0)) ∧ (M.1 0 5 = nI (G 1) ∧ r 1 = nI (G 1)) ∧ (M.1 0 6 = nI (G 2) ∧ r 2 = nI (G 2)) ∧ (M.1 0 7 = nI (G 3) ∧ r 3 = nI (G 3)) ∧ (M.1 0 8 = nI (G 4) ∧ r 4 = nI (G 4)) :=
  ⟨⟨h.m (loc_n 0 (by omega)) (vis_lo (by omega)) rfl, h.2.2.1 0 (by omega)⟩, ⟨h.m (loc_n 1 (by omega)) (vis_lo (by omega)) rfl, h.2.2.1 1 (by omega)⟩, ⟨h.m (loc_n 2 (by omega)) (vis_lo (by omega)) rfl, h.2.2.1 2 (by omega)⟩, ⟨h.m (loc_n 3 (by omega)) (vis_lo (by omega)) rfl, h.2.2.1 3 (by omega)⟩, ⟨h.m (loc_n 4 (by omega)) (vis_lo (by omega)) rfl, h.2.2.1 4 (by omega)⟩⟩
theorem rdC {N c k : Nat} {R : xM} {G : Nat → Nat} (hR : ∀ i, i < 1460 → R.1 1 i = nI (G i)) (hc : c < 8) (hk : k < 46) : F_X10_colorantAt N (nI c) (nI k) R = some (R, nI (G (5 + 46 * c + k))) := by
  unfold F_X10_colorantAt
  rw [show ((5 : Int32) + (46 * nI c)) + nI k = nI (5 + 46 * c + k) from by show nI 5 + nI 46 * nI c + nI k = _; rw [pk_mul, nI_add, nI_add], ck_nI (by omega) (by decide), nI_clamp (by omega), hR _ (by omega)]
theorem rdB {N b k : Nat} {R : xM} {G : Nat → Nat} (hR : ∀ i, i < 1460 → R.1 1 i = nI (G i)) (hb : b < 6) (hk : k < 6) : F_X10_baseAt N (nI b) (nI k) R = some (R, nI (G (373 + 6 * b + k))) := by
  unfold F_X10_baseAt
  rw [show ((373 : Int32) + (6 * nI b)) + nI k = nI (373 + 6 * b + k) from by show nI 373 + nI 6 * nI b + nI k = _; rw [pk_mul, nI_add, nI_add], ck_nI (by omega) (by decide), nI_clamp (by omega), hR _ (by omega)]
theorem rdK {N c k : Nat} {R : xM} {G : Nat → Nat} (hR : ∀ i, i < 1460 → R.1 1 i = nI (G i)) (hc : c < 20) (hk : k < 44) : F_X10_canAt N (nI c) (nI k) R = some (R, nI (G (579 + 44 * c + k))) := by
  unfold F_X10_canAt
  rw [show ((579 : Int32) + (44 * nI c)) + nI k = nI (579 + 44 * c + k) from by show nI 579 + nI 44 * nI c + nI k = _; rw [pk_mul, nI_add, nI_add], ck_nI (by omega) (by decide), nI_clamp (by omega), hR _ (by omega)]
abbrev hI : xM → String → Option xR := fun (M8 : xM) (E : String) => if E = "java/lang/IndexOutOfBoundsException" then some (M8, 1) else none
abbrev hE : xM → String → Option xR := fun (M8 : xM) (E : String) => if E = "java/util/NoSuchElementException" then some (M8, 1) else none
theorem o_12 {N : Nat} {v1 v2 v3 v4 v5 v6 : Int32} {M R : xM} (h : Rel M R) : ∃ q, zOp_12 N v1 v2 v3 v4 v5 v6 M R = some q ∧ Rel q.1 q.2 := by
  refine ⟨(M, xS R 0 (upd (R.1 0) 0 0)), ?_, h.thrown⟩
  show (if M.1 1470 5 = R.1 0 11 then some (M, xS R 0 (upd (R.1 0) 0 0)) else none) = _
  rw [if_pos h.2.2.2.2.1]
theorem o_19 {N : Nat} {v1 v2 v3 v4 v5 v6 : Int32} {M R : xM} (h : Rel M R) : ∃ q, zOp_19 N v1 v2 v3 v4 v5 v6 M R = some q ∧ Rel q.1 q.2 := by
  refine zAgr (hd := hE) ?_
  have hl := h.2.2.2.2.2.1
  by_cases h0 : M.1 1470 6 = 0
  · refine Agr.no (E := "java/util/NoSuchElementException") (k := 1) (w := 0) h rfl (by decide) ?_ ?_
    · unfold F_X9_refusal; rw [if_pos h0]
    · unfold F_X10_refusal; rw [if_pos (hl.symm.trans h0)]; rfl
  · refine Agr.ok (v := M.1 1470 6) h ?_ ?_
    · unfold F_X9_refusal; rw [if_neg h0]
    · unfold F_X10_refusal; rw [if_neg (fun e => h0 (hl.trans e)), hl]; rfl
theorem o_20 {N : Nat} {v1 v2 v3 v4 v5 v6 : Int32} {M R : xM} (h : Rel M R) : ∃ q, zOp_20 N v1 v2 v3 v4 v5 v6 M R = some q ∧ Rel q.1 q.2 := by
  refine zAgr (hd := hE) ?_
  have hl := h.2.2.2.2.2.1
  by_cases h0 : M.1 1470 6 = 5
  · refine Agr.ok (v := M.1 1470 7) h ?_ ?_
    · unfold F_X9_lacking; rw [if_pos h0]
    · unfold F_X10_lacking; rw [if_pos (hl.symm.trans h0), h.2.2.2.2.2.2 (hl.symm.trans h0)]; rfl
  · refine Agr.no (E := "java/util/NoSuchElementException") (k := 1) (w := 0) h rfl (by decide) ?_ ?_
    · unfold F_X9_lacking; rw [if_neg h0]
    · unfold F_X10_lacking; rw [if_neg (fun e => h0 (hl.trans e))]; rfl
theorem o_15 {N : Nat} {v1 v2 v3 v4 v5 v6 : Int32} {M R : xM} (h : Rel M R) : ∃ q, zOp_15 N v1 v2 v3 v4 v5 v6 M R = some q ∧ Rel q.1 q.2 := by
  refine zAgr (hd := hI) ?_
  obtain ⟨⟨G, B, hd⟩, hx⟩ := id h
  obtain ⟨-, -, ⟨m2, r2⟩, -⟩ := hd.n0
  have hb := hd.2.2.2.2.1
  rcases zFor (N := N) (n := G 2) (by omega) m2 r2 v1 with ⟨f, hf, rfl, e1, e2⟩ | ⟨e1, e2⟩
  · refine Agr.ok (v := nI (G (409 + 17 * f))) h ?_ ?_
    · unfold F_X9_baseOf
      rw [e1]
      show xck (xin (nI f) 10) (some (M, Sum.inl (M.1 (0 + 57 + 3 * (nI f).toNatClampNeg) 0))) = _
      rw [ck_nI (by omega) (by decide), nI_clamp (by omega), hd.m (loc_f f (by omega)).1 (vis_hi (by omega)) (p := 0 + 57 + 3 * f) (by omega)]
    · unfold F_X10_baseOf
      rw [e2]
      show xck (xin (409 + (17 * nI f)) 1460) (xbd (F_X10_done N (R.1 1 (409 + (17 * nI f)).toNatClampNeg) R) (fun (r5 : xR) => some (r5.1, r5.2))) = _
      rw [show (409 : Int32) + 17 * nI f = nI (409 + 17 * f) from by show nI 409 + nI 17 * nI f = _; rw [pk_mul, nI_add], ck_nI (by omega) (by decide), nI_clamp (by omega), hd.2.2.1 _ (by omega)]
      rfl
  · refine Agr.no (E := "java/lang/IndexOutOfBoundsException") (k := 1) (w := 0) h rfl (by decide) ?_ ?_
    · unfold F_X9_baseOf; rw [e1]; rfl
    · unfold F_X10_baseOf; rw [e2]; rfl
theorem o_21 {N : Nat} {v1 v2 v3 v4 v5 v6 : Int32} {M R : xM} (h : Rel M R) : ∃ q, zOp_21 N v1 v2 v3 v4 v5 v6 M R = some q ∧ Rel q.1 q.2 := by
  refine zAgr (hd := hI) ?_
  obtain ⟨⟨G, B, hd⟩, hx⟩ := id h
  obtain ⟨⟨m0, r0⟩, -, -, ⟨m3, r3⟩, -⟩ := hd.n0
  have hb := hd.2.2.2.2.1
  rcases zCan (N := N) (n := G 3) (by omega) m3 r3 v1 with ⟨k, hk, rfl, e1, e2⟩ | ⟨e1, e2⟩
  · rcases zCol (N := N) (n := G 0) (by omega) m0 r0 v2 with ⟨c, hc, rfl, e3, e4⟩ | ⟨e3, e4⟩
    · refine Agr.ok (v := nI (G (579 + 44 * k + 2 + c))) h ?_ ?_
      · unfold F_X9_steps
        rw [e1, xbd_some, xth_inl, e3, xbd_some, xth_inl, ck_nI (by omega) (by decide), ck_nI (by omega) (by decide), nI_clamp (by omega), nI_clamp (by omega), hd.m ((loc_k k (by omega)).2.2.2.2 c (by omega)) (vis_hi (by omega)) (p := 0 + 87 + 3 * k + 1) (by omega)]
      · unfold F_X10_steps
        rw [e2, xbd_some, if_neg i1n, e4, xbd_some, if_neg i1n, show (2 : Int32) + nI c = nI (2 + c) from nI_add 2 c, rdK hd.2.2.1 (by omega) (by omega), show 579 + 44 * k + (2 + c) = 579 + 44 * k + 2 + c by omega]
        rfl
    · refine Agr.no (E := "java/lang/IndexOutOfBoundsException") (k := 1) (w := 0) h rfl (by decide) ?_ ?_
      · unfold F_X9_steps; rw [e1, xbd_some, xth_inl, e3]; rfl
      · unfold F_X10_steps; rw [e2, xbd_some, if_neg i1n, e4]; rfl
  · refine Agr.no (E := "java/lang/IndexOutOfBoundsException") (k := 1) (w := 0) h rfl (by decide) ?_ ?_
    · unfold F_X9_steps; rw [e1]; rfl
    · unfold F_X10_steps; rw [e2]; rfl
