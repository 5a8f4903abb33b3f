/-! more rows of the road: divisors, truth values, characters, switches, copies -/
theorem xnz {y : Int32} (h : (y != 0) = true) : ¬ y = 0 := by simpa using h
def xz (x : Int32) : Bool := decide (x = 0 ∨ x = 1)
theorem xz_n {x : Int32} (h : xz x = true) : narrow .boolean (.int x) = .int x := by
  rcases of_decide_eq_true h with rfl | rfl <;> decide
theorem xz_f {x : Int32} (h : xz x = true) : fits .boolean (.int x) = true := by
  rcases of_decide_eq_true h with rfl | rfl <;> decide
def xch (x : Int32) : Bool := decide (0 ≤ x.toInt ∧ x.toInt < 65536)
theorem xch_n {x : Int32} (h : xch x = true) : narrow .char (.int x) = .int x := by
  obtain ⟨h1, h2⟩ := of_decide_eq_true h
  have h3 : ¬ x < 0 := by
    intro h9
    have := Int32.lt_iff_toInt_lt.mp h9
    simp at this
    omega
  obtain ⟨j, hj, rfl⟩ := nI_of h3
  rw [nI_toInt hj] at h2
  exact (pk_charN (by omega)).1
theorem xsw_out {x : Int32} {lo hi : Int} (h : ∀ j : Int, lo ≤ j → j ≤ hi → x = Int32.ofInt j → False) : x.toInt < lo ∨ hi < x.toInt := by
  rcases Int.lt_or_le x.toInt lo with h1 | h1
  · exact Or.inl h1
  · rcases Int.lt_or_le hi x.toInt with h2 | h2
    · exact Or.inr h2
    · exact (h x.toInt h1 h2 (by rw [Int32.ofInt_toInt])).elim
theorem xth_l {M : xM} {v : Int32} {k : xM → Int32 → Option xE} {r : xE} (h : xth (M, Sum.inl v) k = some r) : k M v = some r := h
theorem pnX0 : plainName RX0 = true := by decide +kernel
theorem pnX1 : plainName RX1 = true := by decide +kernel
theorem pnX2 : plainName RX2 = true := by decide +kernel
theorem pnX3 : plainName RX3 = true := by decide +kernel
theorem pnX4 : plainName RX4 = true := by decide +kernel
theorem pnX5 : plainName RX5 = true := by decide +kernel
theorem pnX6 : plainName RX6 = true := by decide +kernel
theorem pnX7 : plainName RX7 = true := by decide +kernel
theorem pnX8 : plainName RX8 = true := by decide +kernel
theorem pnX9 : plainName RX9 = true := by decide +kernel
theorem pnX10 : plainName RX10 = true := by decide +kernel
section XCOPY
variable {p : Program} {l : Launch} {e : Env} {R : Room} {s : State} {m : MethodId} {args : Array Value} {below : List Frame} {meth : Method} {c : Code} {H : Heap} {locs : List Loc} {cells slots : Nat} {Q : State → Prop}
variable {cc : ByteArray} {pc : Nat} {ls : Array Slot} {rest : List Value} {Γ : xG} {w : xM → va_W} {N : Nat} {M : xM}
theorem x_copyi (hx : p.tables.exec = Jvm.exec) (hb : c.code = cc) (hml : c.maxLocals = ls.size) {own : String} {index : Nat} (hown : s.vm.findClass own = some m.cls) (hlink : (Cond.methodLink own index arraycopyName).before args s = true) (hnat : (Cond.native arraycopyName).before args s = true) (hstat : (Cond.static arraycopyName).before args s = true) (hini : (Cond.initialized "java/lang/System").before args s = true)
    (h : xH Γ w N s M H locs) {k0 k1 n0 n1 : Nat} (hc0 : xI Γ w k0 n0) (hc1 : xI Γ w k1 n1) {sp dp n : Int32} (h1 : ¬ sp < 0) (h2 : ¬ dp < 0) (h3 : ¬ n < 0) (h4 : sp.toNatClampNeg + n.toNatClampNeg ≤ n0) (h5 : dp.toNatClampNeg + n.toNatClampNeg ≤ n1)
    (hframes : 1 ≤ R.frames) (hlocals : 8 + (nativeFrameWords "java/lang/System" "arraycopy" 5 + 11) ≤ R.locals) {M1 : xM} (e1 : M1 = xS M k1 (va_cpy (M.1 k0) (M.1 k1) sp.toNatClampNeg dp.toNatClampNeg n.toNatClampNeg)) (hdg : decode cc pc = .ok (.invokestatic index, 3))
    (kk : ∀ (H1 : Heap) (locs1 : List Loc), xH Γ w N s M1 H1 locs1 → W p l e R s m args below meth c H1 locs1 cells slots Q (F0 m (pc + 3) ls [])) : W p l e R s m args below meth c H locs cells slots Q (F0 m pc ls [.int n, .int dp, .ref (Γ.2.1 k1), .int sp, .ref (Γ.2.1 k0)]) := by
  refine va_copyi hx hb hml hown hlink hnat hstat hini h.1 h.2.1 h.2.2.1 h.2.2.2 k0 k1 1 1 (hc0.1 M) (hc1.1 M) rfl rfl rfl h1 h2 h3 h4 h5 (fun i _ => rfl) hframes (by simp only [List.map_nil, List.sum_nil]; omega) hdg (fun H1 locs1 hP hD hS => ?_)
  rw [hc1.2] at hP hD
  exact kk H1 locs1 (e1 ▸ ⟨h.1, hP, hD, hS⟩)
theorem x_copyl (hx : p.tables.exec = Jvm.exec) (hb : c.code = cc) (hml : c.maxLocals = ls.size) {own : String} {index : Nat} (hown : s.vm.findClass own = some m.cls) (hlink : (Cond.methodLink own index arraycopyName).before args s = true) (hnat : (Cond.native arraycopyName).before args s = true) (hstat : (Cond.static arraycopyName).before args s = true) (hini : (Cond.initialized "java/lang/System").before args s = true)
    (h : xH Γ w N s M H locs) {k0 k1 n0 n1 : Nat} (hc0 : xJ Γ w k0 n0) (hc1 : xJ Γ w k1 n1) {sp dp n : Int32} (h1 : ¬ sp < 0) (h2 : ¬ dp < 0) (h3 : ¬ n < 0) (h4 : sp.toNatClampNeg + n.toNatClampNeg ≤ n0) (h5 : dp.toNatClampNeg + n.toNatClampNeg ≤ n1)
    (hframes : 1 ≤ R.frames) (hlocals : 8 + (nativeFrameWords "java/lang/System" "arraycopy" 5 + 11) ≤ R.locals) {M1 : xM} (e1 : M1 = xSL M k1 (va_cpy (M.2 k0) (M.2 k1) sp.toNatClampNeg dp.toNatClampNeg n.toNatClampNeg)) (hdg : decode cc pc = .ok (.invokestatic index, 3))
    (kk : ∀ (H1 : Heap) (locs1 : List Loc), xH Γ w N s M1 H1 locs1 → W p l e R s m args below meth c H1 locs1 cells slots Q (F0 m (pc + 3) ls [])) : W p l e R s m args below meth c H locs cells slots Q (F0 m pc ls [.int n, .int dp, .ref (Γ.2.1 k1), .int sp, .ref (Γ.2.1 k0)]) := by
  refine va_copyl hx hb hml hown hlink hnat hstat hini h.1 h.2.1 h.2.2.1 h.2.2.2 k0 k1 2 2 (hc0.1 M) (hc1.1 M) rfl rfl rfl h1 h2 h3 h4 h5 (fun i _ => rfl) hframes (by simp only [List.map_nil, List.sum_nil]; omega) hdg (fun H1 locs1 hP hD hS => ?_)
  rw [hc1.2] at hP hD
  exact kk H1 locs1 (e1 ▸ ⟨h.1, hP, hD, hS⟩)
end XCOPY
