/-! one call on each side, side by side -/
theorem xS_at {M : xM} {k : Nat} {f : Nat → Int32} : (xS M k f).1 k = f := if_pos rfl
theorem xS_ne {M : xM} {k j : Nat} {f : Nat → Int32} (h : j ≠ k) : (xS M k f).1 j = M.1 j := if_neg h
def Agr (hd : xM → String → Option xR) (fX : Option xE) (fR : Option xR) : Prop :=
  (∃ M1 R1 v, fX = some (M1, Sum.inl v) ∧ fR = some (R1, v) ∧ R1.1 0 0 = 0 ∧ Rel M1 R1) ∨ ∃ M1 R1 E k w, fX = some (M1, Sum.inr E) ∧ hd M1 E = some (M1, k) ∧ fR = some (R1, w) ∧ R1.1 0 0 = k ∧ ¬ k = 0 ∧ Rel M1 R1
theorem lg_cmp_same (x : Int64) : lg_cmp x x = 0 := by
  unfold lg_cmp
  split
  · next h => exact absurd (Int64.lt_iff_toInt_lt.mp h) (Int.lt_irrefl _)
  · split
    · rfl
    · next h1 h2 => exact absurd rfl h2
theorem Rel.out {M R : xM} {f : Nat → Int64} (h : Rel M R) : Rel (xSL M 1481 f) R := by
  obtain ⟨⟨G, B, hd⟩, hx⟩ := h
  have e : ∀ k, k < 1481 → (xSL M 1481 f).2 k = M.2 k := fun k hk => if_neg (by omega)
  exact ⟨⟨G, B, hd.cong (fun k hk => rfl) (fun k hk => e _ (by omega)) (fun i hi => rfl)⟩, hx.cong ⟨fun k a b => rfl, fun k a b => e _ (by omega)⟩ sameR.rf⟩
theorem zAgr {N : Nat} {hd : xM → String → Option xR} {fX : Option xE} {fR : Option xR} (h : Agr hd fX fR) : ∃ q, (xbd (xbd fX (fun (r1 : xE) => xthL r1 (fun (M2 : xM) (y3 : Int32) => xl (xSL M2 1481 (vp_updL (M2.2 1481) (0 : Int32).toNatClampNeg (y3).toInt64)) (fun (M6 : xM) => some (M6, 0))) hd)) (fun (r1 : xR) => xbd fR (fun (r2 : xR) => xbd (F_X10_thrown N r2.1) (fun (r3 : xR) => (if r3.2 = r1.2 then (if r1.2 = 0 then (if (lg_cmp (r1.1.2 1481 (0 : Int32).toNatClampNeg) (r2.2).toInt64) = 0 then some (r1.1, r3.1) else none) else some (r1.1, r3.1)) else none))))) = some q ∧ Rel q.1 q.2 := by
  rcases h with ⟨M1, R1, v, h1, h2, h3, h4⟩ | ⟨M1, R1, E, k, w, h1, h5, h2, h3, h6, h4⟩
  · refine ⟨(xSL M1 1481 (vp_updL (M1.2 1481) (0 : Int32).toNatClampNeg v.toInt64), R1), ?_, h4.out⟩
    rw [h1, h2]
    show (if R1.1 0 0 = 0 then (if (0 : Int32) = 0 then (if lg_cmp ((xSL M1 1481 (vp_updL (M1.2 1481) (0 : Int32).toNatClampNeg v.toInt64)).2 1481 (0 : Int32).toNatClampNeg) v.toInt64 = 0 then some (xSL M1 1481 (vp_updL (M1.2 1481) (0 : Int32).toNatClampNeg v.toInt64), R1) else none) else some (xSL M1 1481 (vp_updL (M1.2 1481) (0 : Int32).toNatClampNeg v.toInt64), R1)) else none) = _
    have e : (xSL M1 1481 (vp_updL (M1.2 1481) (0 : Int32).toNatClampNeg v.toInt64)).2 1481 (0 : Int32).toNatClampNeg = v.toInt64 := by
      show (if (1481 : Nat) = 1481 then vp_updL (M1.2 1481) (0 : Int32).toNatClampNeg v.toInt64 else M1.2 1481) (0 : Int32).toNatClampNeg = _
      rw [if_pos rfl]
      exact pk_uLs
    rw [e, if_pos h3, if_pos rfl, if_pos (lg_cmp_same _)]
  · refine ⟨(M1, R1), ?_, h4⟩
    rw [h1, h2]
    show xbd (hd M1 E) (fun (r1 : xR) => (if R1.1 0 0 = r1.2 then (if r1.2 = 0 then (if (lg_cmp (r1.1.2 1481 (0 : Int32).toNatClampNeg) (w).toInt64) = 0 then some (r1.1, R1) else none) else some (r1.1, R1)) else none)) = _
    rw [h5]
    show (if R1.1 0 0 = k then (if k = 0 then _ else some (M1, R1)) else none) = _
    rw [if_pos h3, if_neg h6]
/-- a number between two bounds, or not -/
theorem zRange {N : Nat} (v lo hi : Int32) (M R : xM) : (lo ≤ v ∧ v ≤ hi ∧ F_X9_requireRange N v lo hi M = some (M, Sum.inl 0) ∧ F_X10_in N v lo hi R = some (R, 1)) ∨ (F_X9_requireRange N v lo hi M = some (M, Sum.inr "java/lang/IllegalArgumentException") ∧ F_X10_in N v lo hi R = some (R, 0)) := by
  unfold F_X9_requireRange F_X10_in
  by_cases h1 : v < lo
  · rw [if_pos h1, if_pos h1]
    exact Or.inr ⟨rfl, rfl⟩
  · rw [if_neg h1, if_neg h1]
    by_cases h2 : v ≤ hi
    · rw [if_pos h2, if_neg (by rw [Int32.lt_iff_toInt_lt]; rw [Int32.le_iff_toInt_le] at h2; omega)]
      exact Or.inl ⟨by rw [Int32.le_iff_toInt_le]; rw [Int32.lt_iff_toInt_lt] at h1; omega, h2, rfl, rfl⟩
    · rw [if_neg h2, if_pos (by rw [Int32.lt_iff_toInt_lt]; rw [Int32.le_iff_toInt_le] at h2; omega)]
      exact Or.inr ⟨rfl, rfl⟩
theorem zNat {v lo hi : Int32} {a b : Nat} (hl : lo.toInt = (a : Int)) (hh : hi.toInt = (b : Int)) (h1 : lo ≤ v) (h2 : v ≤ hi) : ∃ n, a ≤ n ∧ n ≤ b ∧ v = nI n := by
  rw [Int32.le_iff_toInt_le] at h1 h2
  refine ⟨v.toInt.toNat, by omega, by omega, Int32.toInt_inj.mp ?_⟩
  have hb := hi.toInt_lt
  rw [nI_toInt (by omega)]
  omega
/-- an index below a count, or not -/
theorem zIn {N n : Nat} (hn : n < 1000) (v : Int32) (R : xM) : (∃ c, c < n ∧ v = nI c ∧ F_X10_in N v 0 (nI n - 1) R = some (R, 1)) ∨ ((v < 0 ∨ ¬ v < nI n) ∧ F_X10_in N v 0 (nI n - 1) R = some (R, 0)) := by
  have e : (nI n - 1).toInt = (n : Int) - 1 := zSub (y := 1) (nI_toInt (by omega)) rfl (by omega) (by omega)
  have en : (nI n).toInt = (n : Int) := nI_toInt (by omega)
  unfold F_X10_in
  by_cases h1 : v < 0
  · rw [if_pos h1]
    exact Or.inr ⟨Or.inl h1, rfl⟩
  · rw [if_neg h1]
    have h1' := h1
    rw [Int32.lt_iff_toInt_lt] at h1'
    have h0 : (0 : Int32).toInt = 0 := rfl
    by_cases h2 : nI n - 1 < v
    · rw [if_pos h2]
      refine Or.inr ⟨Or.inr ?_, rfl⟩
      rw [Int32.lt_iff_toInt_lt] at h2 ⊢
      omega
    · rw [if_neg h2]
      rw [Int32.lt_iff_toInt_lt] at h2
      refine Or.inl ⟨v.toInt.toNat, by omega, Int32.toInt_inj.mp ?_, rfl⟩
      rw [nI_toInt (by omega)]
      omega
theorem zReq {n : Nat} {v : Int32} (h : v < 0 ∨ ¬ v < nI n) {α : Type} (a b : α) : (if v < 0 then a else (if v < nI n then b else a)) = a := by
  rcases h with h | h
  · rw [if_pos h]
  · rw [if_neg h]
    by_cases h0 : v < 0
    · rw [if_pos h0]
    · rw [if_neg h0]
theorem zReq1 {n c : Nat} (hn : n < 1000) (h : c < n) {α : Type} (a b : α) : (if nI c < 0 then a else (if nI c < nI n then b else a)) = b := by
  rw [if_neg (nI_pos (by omega)), if_pos (nI_lt h (by omega))]
theorem zCol {N n : Nat} (hn : n < 1000) {M R : xM} (hM : M.1 0 4 = nI n) (hR : R.1 1 0 = nI n) (v : Int32) : (∃ c, c < n ∧ v = nI c ∧ F_X9_requireColorant N v M = some (M, Sum.inl 0) ∧ F_X10_isColorant N v R = some (R, 1)) ∨ (F_X9_requireColorant N v M = some (M, Sum.inr "java/lang/IndexOutOfBoundsException") ∧ F_X10_isColorant N v R = some (R, 0)) := by
  unfold F_X9_requireColorant F_X10_isColorant
  rw [show R.1 1 (0 : Int32).toNatClampNeg = nI n from hR, hM]
  rcases zIn (N := N) hn v R with ⟨c, hc, rfl, h⟩ | ⟨hv, h⟩
  · rw [h, zReq1 hn hc]
    exact Or.inl ⟨c, hc, rfl, rfl, rfl⟩
  · rw [h, zReq hv]
    exact Or.inr ⟨rfl, rfl⟩
theorem zFor {N n : Nat} (hn : n < 1000) {M R : xM} (hM : M.1 0 6 = nI n) (hR : R.1 1 2 = nI n) (v : Int32) : (∃ c, c < n ∧ v = nI c ∧ F_X9_requireFormula N v M = some (M, Sum.inl 0) ∧ F_X10_isFormula N v R = some (R, 1)) ∨ (F_X9_requireFormula N v M = some (M, Sum.inr "java/lang/IndexOutOfBoundsException") ∧ F_X10_isFormula N v R = some (R, 0)) := by
  unfold F_X9_requireFormula F_X10_isFormula
  rw [show R.1 1 (2 : Int32).toNatClampNeg = nI n from hR, hM]
  rcases zIn (N := N) hn v R with ⟨c, hc, rfl, h⟩ | ⟨hv, h⟩
  · rw [h, zReq1 hn hc]
    exact Or.inl ⟨c, hc, rfl, rfl, rfl⟩
  · rw [h, zReq hv]
    exact Or.inr ⟨rfl, rfl⟩
theorem zCan {N n : Nat} (hn : n < 1000) {M R : xM} (hM : M.1 0 7 = nI n) (hR : R.1 1 3 = nI n) (v : Int32) : (∃ c, c < n ∧ v = nI c ∧ F_X9_requireCan N v M = some (M, Sum.inl 0) ∧ F_X10_isCan N v R = some (R, 1)) ∨ (F_X9_requireCan N v M = some (M, Sum.inr "java/lang/IndexOutOfBoundsException") ∧ F_X10_isCan N v R = some (R, 0)) := by
  unfold F_X9_requireCan F_X10_isCan
  rw [show R.1 1 (3 : Int32).toNatClampNeg = nI n from hR, hM]
  rcases zIn (N := N) hn v R with ⟨c, hc, rfl, h⟩ | ⟨hv, h⟩
  · rw [h, zReq1 hn hc]
    exact Or.inl ⟨c, hc, rfl, rfl, rfl⟩
  · rw [h, zReq hv]
    exact Or.inr ⟨rfl, rfl⟩
theorem zBas {N n : Nat} (hn : n < 1000) {M R : xM} (hM : M.1 0 5 = nI n) (v : Int32) : (∃ c, c < n ∧ v = nI c ∧ F_X9_requireBase N v M = some (M, Sum.inl 0) ∧ F_X10_in N v 0 (nI n - 1) R = some (R, 1)) ∨ (F_X9_requireBase N v M = some (M, Sum.inr "java/lang/IndexOutOfBoundsException") ∧ F_X10_in N v 0 (nI n - 1) R = some (R, 0)) := by
  unfold F_X9_requireBase
  rw [hM]
  rcases zIn (N := N) hn v R with ⟨c, hc, rfl, h⟩ | ⟨hv, h⟩
  · rw [h, zReq1 hn hc]
    exact Or.inl ⟨c, hc, rfl, rfl, rfl⟩
  · rw [h, zReq hv]
    exact Or.inr ⟨rfl, rfl⟩
/-- thrown is set, nothing else -/
theorem sameR_thrown {R : xM} {x : Int32} : sameR R (xS R 0 (upd (R.1 0) 0 x)) := by
  refine ⟨rfl, rfl, rfl, ?_, ?_, ?_, ?_, ?_, ?_⟩ <;> exact (congrFun xS_at _).trans (pk_un (by decide))
theorem xS_in {M : xM} {k s : Nat} {x : Int32} : (xS M k (upd (M.1 k) s x)).1 k s = x := by
  show (if k = k then upd (M.1 k) s x else M.1 k) s = x
  rw [if_pos rfl]
  exact if_pos rfl
theorem Rel.thrown {M R : xM} {x : Int32} (h : Rel M R) : Rel M (xS R 0 (upd (R.1 0) 0 x)) := by
  obtain ⟨⟨G, B, hd⟩, hx⟩ := h
  exact ⟨⟨G, B, hd.cong (fun k hk => rfl) (fun k hk => rfl) (fun i hi => rfl)⟩, hx.cong sameX.rf sameR_thrown⟩
/-- nothing changes: both answer -/
theorem Agr.ok {hd : xM → String → Option xR} {fX : Option xE} {fR : Option xR} {M R : xM} {v : Int32} (h : Rel M R) (h1 : fX = some (M, Sum.inl v)) (h2 : fR = some (xS R 0 (upd (R.1 0) 0 0), v)) : Agr hd fX fR := Or.inl ⟨M, _, v, h1, h2, xS_in, h.thrown⟩
theorem Agr.no {hd : xM → String → Option xR} {fX : Option xE} {fR : Option xR} {M R : xM} {E : String} {k w : Int32} (h : Rel M R) (hh : hd M E = some (M, k)) (hk : ¬ k = 0) (h1 : fX = some (M, Sum.inr E)) (h2 : fR = some (xS R 0 (upd (R.1 0) 0 k), w)) : Agr hd fX fR := Or.inr ⟨M, _, E, k, w, h1, hh, h2, xS_in, hk, h.thrown⟩
