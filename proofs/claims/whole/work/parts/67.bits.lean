/-! the lots' bits of cans; hasLot, canWith, formulasWith -/
def bitsM (M : xM) (p c q : Nat) : Bool := bM (M.2 (p + 2) (2 * c + q / 64)) (q % 64)
def bitsR (r : Nat → Int32) (k c q : Nat) : Bool := bR (r (579 + 44 * k + 12 + 4 * c + q / 25)) (q % 25)
theorem sh64 : ∀ s, s < 64 → (nI s).toInt64.toUInt64 &&& Int64.toUInt64 63 = UInt64.ofNat s := by decide +kernel
theorem bit64 (x : Int64) {s : Nat} (hs : s < 64) : lg_cmp ((x.toUInt64 >>> ((nI s).toInt64.toUInt64 &&& Int64.toUInt64 63)).toInt64 &&& (1 : Int64)) (1 : Int64) = 0 ↔ bM x s = true := by
  rw [sh64 s hs]
  obtain ⟨y, hy⟩ : ∃ y, y = (x.toUInt64 >>> UInt64.ofNat s).toInt64 &&& (1 : Int64) := ⟨_, rfl⟩
  rw [← hy]
  have h1 : y.toBitVec.toNat = x.toBitVec.toNat / 2 ^ s % 2 := by
    rw [hy]
    show ((x.toUInt64 >>> UInt64.ofNat s).toBitVec &&& 1#64).toNat = _
    rw [BitVec.toNat_and]
    show (x.toUInt64 >>> UInt64.ofNat s).toNat &&& 1 = _
    rw [UInt64.toNat_shiftRight, Nat.and_one_is_mod, Nat.shiftRight_eq_div_pow, show (UInt64.ofNat s).toNat = s from Nat.mod_eq_of_lt (show s < 2 ^ 64 by omega), Nat.mod_eq_of_lt hs]
    rfl
  have h2 : bM x s = decide (x.toBitVec.toNat / 2 ^ s % 2 = 1) := Nat.testBit_eq_decide_div_mod_eq
  rw [h2, decide_eq_true_iff, ← h1]
  constructor
  · intro h
    unfold lg_cmp at h
    split at h
    · exact absurd h (by decide)
    · split at h
      · next h3 h4 => rw [h4]; rfl
      · exact absurd h (by decide)
  · intro h
    have : y = 1 := Int64.toBitVec_inj.mp (BitVec.eq_of_toNat_eq h)
    rw [this]
    exact lg_cmp_same 1
theorem sh32 : ∀ s, s < 25 → ((nI s &&& 31).toBitVec.smod 32).toNat = s := by decide +kernel
theorem bit32 (x : Int32) {s : Nat} (hs : s < 25) : ((x >>> (nI s &&& 31)) &&& 1) = (1 : Int32) ↔ bR x s = true := by
  obtain ⟨y, hy⟩ : ∃ y, y = x >>> (nI s &&& 31) := ⟨_, rfl⟩
  rw [← hy]
  have h1 : y.toBitVec.getLsbD 0 = bR x s := by
    rw [hy]
    show (x.toBitVec.sshiftRight ((nI s &&& 31).toBitVec.smod 32).toNat).getLsbD 0 = x.toBitVec.getLsbD s
    rw [sh32 s hs, BitVec.getLsbD_sshiftRight, if_pos (by omega)]
    rfl
  rw [← h1]
  have h2 : y.toBitVec.getLsbD 0 = decide (y.toBitVec.toNat % 2 = 1) := Nat.testBit_zero _
  have h3 : (y &&& 1).toBitVec.toNat = y.toBitVec.toNat % 2 := by
    show (y.toBitVec &&& 1#32).toNat = _
    rw [BitVec.toNat_and]
    exact Nat.and_one_is_mod _
  rw [h2, decide_eq_true_iff, ← h3]
  constructor
  · intro h
    rw [h]
    rfl
  · intro h
    exact Int32.toBitVec_inj.mp (BitVec.eq_of_toNat_eq h)
theorem one64 : ∀ s, s < 64 → ∀ i, i < 64 → bM ((1 : Int64) <<< ((nI s).toInt64 &&& 63)) i = decide (i = s) := by decide +kernel
theorem one32 : ∀ s, s < 25 → ∀ i, i < 25 → bR ((1 : Int32) <<< (nI s &&& 31)) i = decide (i = s) := by decide +kernel
theorem bM_or (x y : Int64) (i : Nat) : bM (x ||| y) i = (bM x i || bM y i) := by
  show (x.toBitVec ||| y.toBitVec).getLsbD i = _
  exact BitVec.getLsbD_or
theorem bR_or (x y : Int32) (i : Nat) : bR (x ||| y) i = (bR x i || bR y i) := by
  show (x.toBitVec ||| y.toBitVec).getLsbD i = _
  exact BitVec.getLsbD_or
theorem i_64 {q : Nat} (h : q < 100) : nI q / 64 = nI (q / 64) ∧ nI q - nI q / 64 * 64 = nI (q % 64) := ⟨pk_div (d := 64) (by omega) (by decide) (by decide), pk_rem (d := 64) (by omega) (by decide) (by decide)⟩
theorem i_25 {q : Nat} (h : q < 100) : nI q / 25 = nI (q / 25) ∧ nI q - nI q / 25 * 25 = nI (q % 25) := ⟨pk_div (d := 25) (by omega) (by decide) (by decide), pk_rem (d := 25) (by omega) (by decide) (by decide)⟩
theorem holdsLot_ok {N p c q : Nat} {M : xM} (hc : c < 8) (hq : q < 100) : F_X1_holdsLot N p (nI c) (nI q) M = some (M, if bitsM M p c q = true then 1 else 0) := by
  unfold F_X1_holdsLot
  rw [(i_64 hq).2, (i_64 hq).1, show nI c * 2 + nI (q / 64) = nI (2 * c + q / 64) from by show nI c * nI 2 + nI (q / 64) = _; rw [pk_mul, nI_add, Nat.mul_comm], ck_nI (by omega) (by decide), nI_clamp (by omega), xl_v]
  unfold bitsM
  by_cases hb : bM (M.2 (p + 2) (2 * c + q / 64)) (q % 64) = true
  · rw [if_pos ((bit64 _ (Nat.mod_lt _ (by decide))).mpr hb), if_pos hb]
  · rw [if_neg (fun e => hb ((bit64 _ (Nat.mod_lt _ (by decide))).mp e)), if_neg hb]
theorem has_ok {N k c q : Nat} {R : xM} (hk : k < 20) (hc : c < 8) (hq : q < 100) : F_X10_has N (nI k) (nI c) (nI q) R = some (R, if bitsR (R.1 1) k c q = true then 1 else 0) := by
  unfold F_X10_has
  rw [(i_25 hq).2, (i_25 hq).1, show (12 + 4 * nI c) + nI (q / 25) = nI (12 + 4 * c + q / 25) from by show nI 12 + nI 4 * nI c + nI (q / 25) = _; rw [pk_mul, nI_add, nI_add]]
  unfold F_X10_canAt
  rw [show ((579 : Int32) + (44 * nI k)) + nI (12 + 4 * c + q / 25) = nI (579 + 44 * k + 12 + 4 * c + q / 25) from by show nI 579 + nI 44 * nI k + nI _ = _; rw [pk_mul, nI_add, nI_add]; exact congrArg nI (by omega), ck_nI (by omega) (by decide), nI_clamp (by omega), xbd_some]
  unfold bitsR
  dsimp only
  by_cases hb : bR (R.1 1 (579 + 44 * k + 12 + 4 * c + q / 25)) (q % 25) = true
  · rw [if_pos ((bit32 _ (Nat.mod_lt _ (by decide))).mpr hb), if_pos hb]
  · rw [if_neg (fun e => hb ((bit32 _ (Nat.mod_lt _ (by decide))).mp e)), if_neg hb]
theorem DS.bits {M : xM} {r : Nat → Int32} {G : Nat → Nat} {B : Nat → Nat → Nat → Bool} (h : DS M 0 r G B) {p k c q : Nat} (hk : k < 20) (hc : c < 8) (hq : q < 100) (hp : p = 87 + 3 * k) : bitsM M p c q = B k c q ∧ bitsR r k c q = B k c q := by
  subst hp
  refine ⟨?_, h.2.2.2.1 k c q hk hc hq⟩
  have := h.2.1 k c q hk hc hq
  unfold bitsM
  rw [show 87 + 3 * k + 2 = 0 + 89 + 3 * k by omega]
  exact this
theorem DS.holds {N : Nat} {M : xM} {r : Nat → Int32} {G : Nat → Nat} {B : Nat → Nat → Nat → Bool} (h : DS M 0 r G B) {p k c q : Nat} (hk : k < 20) (hc : c < 8) (hq : q < 100) (hp : p = 87 + 3 * k) : F_X1_holdsLot N p (nI c) (nI q) M = some (M, if B k c q = true then 1 else 0) := by
  rw [holdsLot_ok hc hq, (h.bits hk hc hq hp).1]
theorem DS.has {N : Nat} {M R : xM} {G : Nat → Nat} {B : Nat → Nat → Nat → Bool} (h : DS M 0 (R.1 1) G B) {k c q : Nat} (hk : k < 20) (hc : c < 8) (hq : q < 100) : F_X10_has N (nI k) (nI c) (nI q) R = some (R, if B k c q = true then 1 else 0) := by
  rw [has_ok hk hc hq, (h.bits hk hc hq rfl).2]
/-- an answer that is a truth value -/
theorem zAgrB {N : Nat} {hd : xM → String → Option xR} {fX : Option xE} {fR : Option xR} (h : (∃ M1 R1, ∃ b : Bool, fX = some (M1, Sum.inl (if b = true then 1 else 0)) ∧ fR = some (R1, if b = true then 1 else 0) ∧ R1.1 0 0 = 0 ∧ Rel M1 R1) ∨ ∃ M1 R1 E k w, fX = some (M1, Sum.inr E) ∧ hd M1 E = some (M1, k) ∧ fR = some (R1, w) ∧ R1.1 0 0 = k ∧ ¬ k = 0 ∧ Rel M1 R1) : ∃ q, (xbd (xbd fX (fun (r1 : xE) => xthL r1 (fun (M2 : xM) (y3 : Int32) => (if y3 = 0 then xl (xSL M2 1481 (vp_updL (M2.2 1481) (0 : Int32).toNatClampNeg (0 : Int64))) (fun (M7 : xM) => some (M7, 0)) else xl (xSL M2 1481 (vp_updL (M2.2 1481) (0 : Int32).toNatClampNeg (1 : Int64))) (fun (M8 : xM) => some (M8, 0)))) hd)) (fun (r1 : xR) => xbd fR (fun (r2 : xR) => xbd (F_X10_thrown N r2.1) (fun (r3 : xR) => (if r3.2 = r1.2 then (if r1.2 = 0 then (if r2.2 = 0 then (if (lg_cmp (r1.1.2 1481 (0 : Int32).toNatClampNeg) (0 : Int64)) = 0 then some (r1.1, r3.1) else none) else (if (lg_cmp (r1.1.2 1481 (0 : Int32).toNatClampNeg) (1 : Int64)) = 0 then some (r1.1, r3.1) else none)) else some (r1.1, r3.1)) else none))))) = some q ∧ Rel q.1 q.2 := by
  have e : ∀ (M1 : xM) (x : Int64), (xSL M1 1481 (vp_updL (M1.2 1481) (0 : Int32).toNatClampNeg x)).2 1481 (0 : Int32).toNatClampNeg = x := fun M1 x => by
    show (if (1481 : Nat) = 1481 then vp_updL (M1.2 1481) (0 : Int32).toNatClampNeg x else M1.2 1481) (0 : Int32).toNatClampNeg = _
    rw [if_pos rfl]
    exact pk_uLs
  rcases h with ⟨M1, R1, b, h1, h2, h3, h4⟩ | ⟨M1, R1, E, k, w, h1, h5, h2, h3, h6, h4⟩
  · cases b with
    | false =>
      refine ⟨(xSL M1 1481 (vp_updL (M1.2 1481) (0 : Int32).toNatClampNeg 0), R1), ?_, h4.out⟩
      rw [h1, h2]
      show (if R1.1 0 0 = 0 then (if lg_cmp ((xSL M1 1481 (vp_updL (M1.2 1481) (0 : Int32).toNatClampNeg 0)).2 1481 (0 : Int32).toNatClampNeg) 0 = 0 then some (xSL M1 1481 (vp_updL (M1.2 1481) (0 : Int32).toNatClampNeg 0), R1) else none) else none) = _
      rw [e, if_pos h3, if_pos (lg_cmp_same _)]
    | true =>
      refine ⟨(xSL M1 1481 (vp_updL (M1.2 1481) (0 : Int32).toNatClampNeg 1), R1), ?_, h4.out⟩
      rw [h1, h2]
      show (if R1.1 0 0 = 0 then (if lg_cmp ((xSL M1 1481 (vp_updL (M1.2 1481) (0 : Int32).toNatClampNeg 1)).2 1481 (0 : Int32).toNatClampNeg) 1 = 0 then some (xSL M1 1481 (vp_updL (M1.2 1481) (0 : Int32).toNatClampNeg 1), R1) else none) else none) = _
      rw [e, if_pos h3, if_pos (lg_cmp_same _)]
  · refine ⟨(M1, R1), ?_, h4⟩
    rw [h1, h2]
    show xbd (hd M1 E) (fun (r1 : xR) => (if R1.1 0 0 = r1.2 then (if r1.2 = 0 then (if w = 0 then (if (lg_cmp (r1.1.2 1481 (0 : Int32).toNatClampNeg) (0 : Int64)) = 0 then some (r1.1, R1) else none) else (if (lg_cmp (r1.1.2 1481 (0 : Int32).toNatClampNeg) (1 : Int64)) = 0 then some (r1.1, R1) else none)) else some (r1.1, R1)) else none)) = _
    rw [h5]
    show (if R1.1 0 0 = k then (if k = 0 then _ else some (M1, R1)) else none) = _
    rw [if_pos h3, if_neg h6]
theorem o_26 {N : Nat} {v1 v2 v3 v4 v5 v6 : Int32} {M R : xM} (h : Rel M R) : ∃ q, zOp_26 N v1 v2 v3 v4 v5 v6 M R = some q ∧ Rel q.1 q.2 := by
  refine zAgrB (hd := h2) ?_
  obtain ⟨⟨G, B, hd⟩, hx⟩ := id h
  obtain ⟨⟨m0, r0⟩, -, -, ⟨m3, r3⟩, -⟩ := hd.n0
  have hb := hd.2.2.2.2.1
  have z1 : (F_X10_fails N 1 R) = some (xS R 0 (upd (R.1 0) 0 1), 0) := rfl
  have no : ∀ {E : String} {k w : Int32}, h2 M E = some (M, k) → ¬ k = 0 → F_X9_hasLot N v1 v2 v3 M = some (M, Sum.inr E) → F_X10_hasLot N v1 v2 v3 R = some (xS R 0 (upd (R.1 0) 0 k), w) → ∃ M1 R1 E k w, F_X9_hasLot N v1 v2 v3 M = some (M1, Sum.inr E) ∧ h2 M1 E = some (M1, k) ∧ F_X10_hasLot N v1 v2 v3 R = some (R1, w) ∧ R1.1 0 0 = k ∧ ¬ k = 0 ∧ Rel M1 R1 := fun {E k w} a1 a2 a3 a4 => ⟨M, _, E, k, w, a3, a1, a4, xS_in, a2, h.thrown⟩
  rcases zCan (N := N) (n := G 3) (by omega) m3 r3 v1 with ⟨k, hk, rfl, e1, e2⟩ | ⟨e1, e2⟩
  · rcases zCol (N := N) (n := G 0) (by omega) m0 r0 v2 with ⟨c, hc, rfl, e3, e4⟩ | ⟨e3, e4⟩
    · rcases zRange (N := N) v3 0 99 M R with ⟨l1, l2, e5, e6⟩ | ⟨e5, e6⟩
      · obtain ⟨q, -, hq2, rfl⟩ := zNat (a := 0) (b := 99) rfl rfl l1 l2
        have e6' : F_X10_isLot N (nI q) R = some (R, 1) := by unfold F_X10_isLot; rw [e6]; rfl
        have hd' : DS M 0 ((xS R 0 (upd (R.1 0) 0 0)).1 1) G B := hd
        refine Or.inl ⟨M, xS R 0 (upd (R.1 0) 0 0), B k c q, ?_, ?_, xS_in, h.thrown⟩
        · unfold F_X9_hasLot
          rw [e1, xbd_some, xth_inl, e3, xbd_some, xth_inl, e5, xbd_some, xth_inl, ck_nI (by omega) (by decide), nI_clamp (by omega), hd.holds (k := k) (by omega) (by omega) (by omega) (by omega), xbd_some]
          cases B k c q <;> rfl
        · unfold F_X10_hasLot
          rw [e2, xbd_some, if_neg i1n, e4, xbd_some, if_neg i1n, e6', xbd_some, if_neg i1n, xl_v, show F_X10_has N (nI k) (nI c) (nI q) (xS (R, (1 : Int32)).1 0 (upd ((R, (1 : Int32)).1.1 0) 0 0)) = _ from hd'.has (by omega) (by omega) (by omega), xbd_some]
          cases B k c q <;> rfl
      · have e6' : F_X10_isLot N v3 R = some (R, 0) := by unfold F_X10_isLot; rw [e6]; rfl
        refine Or.inr (no (E := "java/lang/IllegalArgumentException") (k := 2) (w := 0) rfl (by decide) ?_ ?_)
        · unfold F_X9_hasLot; rw [e1, xbd_some, xth_inl, e3, xbd_some, xth_inl, e5]; rfl
        · unfold F_X10_hasLot; rw [e2, xbd_some, if_neg i1n, e4, xbd_some, if_neg i1n, e6']; rfl
    · refine Or.inr (no (E := "java/lang/IndexOutOfBoundsException") (k := 1) (w := 0) rfl (by decide) ?_ ?_)
      · unfold F_X9_hasLot; rw [e1, xbd_some, xth_inl, e3]; rfl
      · unfold F_X10_hasLot; rw [e2, xbd_some, if_neg i1n, e4]; rfl
  · refine Or.inr (no (E := "java/lang/IndexOutOfBoundsException") (k := 1) (w := 0) rfl (by decide) ?_ ?_)
    · unfold F_X9_hasLot; rw [e1]; rfl
    · unfold F_X10_hasLot; rw [e2]; rfl
abbrev hW : xM → String → Option xR := fun (M8 : xM) (E : String) => if E = "java/lang/IndexOutOfBoundsException" then some (M8, 1) else if E = "java/lang/IllegalArgumentException" then some (M8, 2) else if E = "java/util/NoSuchElementException" then some (M8, 3) else none
theorem o_27 {N : Nat} (hN : 12000 ≤ N) {v1 v2 v3 v4 v5 v6 : Int32} {M R : xM} (h : Rel M R) : ∃ q, zOp_27 N v1 v2 v3 v4 v5 v6 M R = some q ∧ Rel q.1 q.2 := by
  refine zAgr (hd := hW) ?_
  obtain ⟨⟨G, B, hd⟩, hx⟩ := id h
  obtain ⟨⟨m0, r0⟩, -, -, ⟨m3, r3⟩, -⟩ := hd.n0
  have r3' : R.1 1 (3 : Int32).toNatClampNeg = nI (G 3) := r3
  have hb := hd.2.2.2.2.1
  rcases zCol (N := N) (n := G 0) (by omega) m0 r0 v1 with ⟨c, hc, rfl, e1, e2⟩ | ⟨e1, e2⟩
  · rcases zRange (N := N) v2 0 99 M R with ⟨l1, l2, e3, e4⟩ | ⟨e3, e4⟩
    · obtain ⟨q, -, hq2, rfl⟩ := zNat (a := 0) (b := 99) rfl rfl l1 l2
      have e4' : F_X10_isLot N (nI q) R = some (R, 1) := by unfold F_X10_isLot; rw [e4]; rfl
      have loop : ∀ n i (b : Int32), i ≤ G 3 → G 3 < n + i → (∃ j, j < 20 ∧ L_X3_canHolding_6 N 0 n (nI c) (nI q) v3 b (nI i) M = some (M, nI j) ∧ L_X10_canWith_33 N n (nI c) (nI q) v3 b (nI i) R = some (xS R 0 (upd (R.1 0) 0 0), nI j)) ∨ (L_X3_canHolding_6 N 0 n (nI c) (nI q) v3 b (nI i) M = some (M, -1) ∧ L_X10_canWith_33 N n (nI c) (nI q) v3 b (nI i) R = some (xS R 0 (upd (R.1 0) 0 3), 0)) := by
        intro n
        induction n with
        | zero => intro i b a1 a2; omega
        | succ n ih =>
          intro i b a1 a2
          rw [L_X3_canHolding_6, L_X10_canWith_33, m3, r3']
          by_cases hi : i = G 3
          · rw [if_pos (nI_le (by omega) (by omega)), if_pos (nI_le (by omega) (by omega))]
            exact Or.inr ⟨rfl, rfl⟩
          · rw [if_neg (nI_ge (a := i) (by omega) (by omega)), if_neg (nI_ge (a := i) (by omega) (by omega)), ck_nI (by omega) (by decide), nI_clamp (by omega), hd.holds (k := i) (by omega) (by omega) (by omega) (by omega), hd.has (by omega) (by omega) (by omega), xbd_some, xbd_some]
            cases hB : B i c q with
            | false =>
              rw [if_pos (show (M, if false = true then (1 : Int32) else 0).2 = 0 from rfl), if_pos (show (R, if false = true then (1 : Int32) else 0).2 = 0 from rfl)]
              unfold L_X3_canHolding_42 L_X10_canWith_71
              rw [nI_1, xl_v, xl_v]
              exact ih (i + 1) b (by omega) (by omega)
            | true =>
              rw [if_neg (show ¬ (M, if true = true then (1 : Int32) else 0).2 = 0 from by show ¬ (1 : Int32) = 0; decide), if_neg (show ¬ (R, if true = true then (1 : Int32) else 0).2 = 0 from by show ¬ (1 : Int32) = 0; decide)]
              by_cases hv : b = v3
              · rw [if_pos hv, if_pos hv]
                exact Or.inl ⟨i, by omega, rfl, rfl⟩
              · rw [if_neg hv, if_neg hv]
                unfold L_X3_canHolding_42 L_X10_canWith_71
                rw [nI_1, xl_v, xl_v, xl_v, xl_v]
                exact ih (i + 1) (b + 1) (by omega) (by omega)
      rcases loop N 0 0 (by omega) (by omega) with ⟨j, hj, g1, g2⟩ | ⟨g1, g2⟩
      · refine Agr.ok (v := nI j) h ?_ ?_
        · unfold F_X9_canWith F_X3_canHolding
          rw [e1, xbd_some, xth_inl, e3, xbd_some, xth_inl, show L_X3_canHolding_6 N 0 N (nI c) (nI q) v3 0 0 M = _ from g1, xbd_some, xl_v, if_pos (nI_pos' (by omega))]
        · unfold F_X10_canWith
          rw [e2, xbd_some, if_neg i1n, e4', xbd_some, if_neg i1n]
          exact g2
      · refine Agr.no (E := "java/util/NoSuchElementException") (k := 3) (w := 0) h rfl (by decide) ?_ ?_
        · unfold F_X9_canWith F_X3_canHolding
          rw [e1, xbd_some, xth_inl, e3, xbd_some, xth_inl, show L_X3_canHolding_6 N 0 N (nI c) (nI q) v3 0 0 M = _ from g1, xbd_some, xl_v, if_neg (show ¬ (0 : Int32) ≤ (-1) from by decide)]
        · unfold F_X10_canWith
          rw [e2, xbd_some, if_neg i1n, e4', xbd_some, if_neg i1n]
          exact g2
    · have e4' : F_X10_isLot N v2 R = some (R, 0) := by unfold F_X10_isLot; rw [e4]; rfl
      refine Agr.no (E := "java/lang/IllegalArgumentException") (k := 2) (w := 0) h rfl (by decide) ?_ ?_
      · unfold F_X9_canWith; rw [e1, xbd_some, xth_inl, e3]; rfl
      · unfold F_X10_canWith; rw [e2, xbd_some, if_neg i1n, e4']; rfl
  · refine Agr.no (E := "java/lang/IndexOutOfBoundsException") (k := 1) (w := 0) h rfl (by decide) ?_ ?_
    · unfold F_X9_canWith; rw [e1]; rfl
    · unfold F_X10_canWith; rw [e2]; rfl
theorem o_28 {N : Nat} (hN : 12000 ≤ N) {v1 v2 v3 v4 v5 v6 : Int32} {M R : xM} (h : Rel M R) : ∃ q, zOp_28 N v1 v2 v3 v4 v5 v6 M R = some q ∧ Rel q.1 q.2 := by
  refine zAgr (hd := h2) ?_
  obtain ⟨⟨G, B, hd⟩, hx⟩ := id h
  obtain ⟨⟨m0, r0⟩, -, -, ⟨m3, r3⟩, -⟩ := hd.n0
  have r3' : R.1 1 (3 : Int32).toNatClampNeg = nI (G 3) := r3
  have hb := hd.2.2.2.2.1
  rcases zCol (N := N) (n := G 0) (by omega) m0 r0 v1 with ⟨c, hc, rfl, e1, e2⟩ | ⟨e1, e2⟩
  · rcases zRange (N := N) v2 0 99 M R with ⟨l1, l2, e3, e4⟩ | ⟨e3, e4⟩
    · obtain ⟨q, -, hq2, rfl⟩ := zNat (a := 0) (b := 99) rfl rfl l1 l2
      have e4' : F_X10_isLot N (nI q) R = some (R, 1) := by unfold F_X10_isLot; rw [e4]; rfl
      have loop : ∀ n i (b : Int32), i ≤ G 3 → G 3 < n + i → ∃ t, L_X3_formulasHolding_5 N 0 n (nI c) (nI q) b (nI i) M = some (M, t) ∧ L_X10_formulasWith_32 N n (nI c) (nI q) b (nI i) R = some (xS R 0 (upd (R.1 0) 0 0), t) := by
        intro n
        induction n with
        | zero => intro i b a1 a2; omega
        | succ n ih =>
          intro i b a1 a2
          rw [L_X3_formulasHolding_5, L_X10_formulasWith_32, m3, r3']
          by_cases hi : i = G 3
          · rw [if_pos (nI_le (by omega) (by omega)), if_pos (nI_le (by omega) (by omega))]
            exact ⟨b, rfl, rfl⟩
          · rw [if_neg (nI_ge (a := i) (by omega) (by omega)), if_neg (nI_ge (a := i) (by omega) (by omega)), ck_nI (by omega) (by decide), nI_clamp (by omega), hd.holds (k := i) (by omega) (by omega) (by omega) (by omega), hd.has (by omega) (by omega) (by omega), xbd_some, xbd_some]
            cases hB : B i c q with
            | false =>
              rw [if_pos (show (M, if false = true then (1 : Int32) else 0).2 = 0 from rfl), if_pos (show (R, if false = true then (1 : Int32) else 0).2 = 0 from rfl)]
              unfold L_X3_formulasHolding_44 L_X10_formulasWith_68
              rw [nI_1, xl_v, xl_v, xl_v, Int32.or_zero]
              exact ih (i + 1) b (by omega) (by omega)
            | true =>
              rw [if_neg (show ¬ (M, if true = true then (1 : Int32) else 0).2 = 0 from by show ¬ (1 : Int32) = 0; decide), if_neg (show ¬ (R, if true = true then (1 : Int32) else 0).2 = 0 from by show ¬ (1 : Int32) = 0; decide), ck_nI (by omega) (by decide), show F_X10_canAt N (nI i) 0 (R, if true = true then (1 : Int32) else 0).1 = some (R, nI (G (579 + 44 * i))) from rdK (k := 0) hd.2.2.1 (by omega) (by omega), xbd_some]
              dsimp only
              rw [hd.m (loc_k i (by omega)).1 (vis_hi (by omega)) (p := 0 + 87 + 3 * i) (by omega)]
              unfold L_X3_formulasHolding_44 L_X10_formulasWith_68
              rw [nI_1, xl_v, xl_v, xl_v, xl_v]
              exact ih (i + 1) _ (by omega) (by omega)
      obtain ⟨t, g1, g2⟩ := loop N 0 0 (by omega) (by omega)
      refine Agr.ok (v := t) h ?_ ?_
      · unfold F_X9_formulasWith F_X3_formulasHolding
        rw [e1, xbd_some, xth_inl, e3, xbd_some, xth_inl, show L_X3_formulasHolding_5 N 0 N (nI c) (nI q) 0 0 M = _ from g1]
        rfl
      · unfold F_X10_formulasWith
        rw [e2, xbd_some, if_neg i1n, e4', xbd_some, if_neg i1n]
        exact g2
    · have e4' : F_X10_isLot N v2 R = some (R, 0) := by unfold F_X10_isLot; rw [e4]; rfl
      refine Agr.no (E := "java/lang/IllegalArgumentException") (k := 2) (w := 0) h rfl (by decide) ?_ ?_
      · unfold F_X9_formulasWith; rw [e1, xbd_some, xth_inl, e3]; rfl
      · unfold F_X10_formulasWith; rw [e2, xbd_some, if_neg i1n, e4']; rfl
  · refine Agr.no (E := "java/lang/IndexOutOfBoundsException") (k := 1) (w := 0) h rfl (by decide) ?_ ?_
    · unfold F_X9_formulasWith; rw [e1]; rfl
    · unfold F_X10_formulasWith; rw [e2]; rfl
