/-! the law's walk: both worlds at once, all of it made by the law itself -/
abbrev gR (Γ : xG) (a : Nat → Nat) : xG := (Γ.1, a, Γ.2.2)
def zD (Γ : xG) (a : Nat → Nat) (n : Nat) : Prop := (∀ i j, i < 1483 → j < 1483 → Γ.2.1 i = Γ.2.1 j → i = j) ∧ (∀ i j, i < 10 → j < 10 → a i = a j → i = j) ∧ (∀ i j, i < 1483 → j < 10 → Γ.2.1 i ≠ a j) ∧ (∀ i, i < 1483 → n ≤ Γ.2.1 i) ∧ ∀ j, j < 10 → n ≤ a j
theorem wG_D {N : Nat} {cf : xG → Nat → (Nat → Int32) → (Nat → Int64) → va_E} {Γ : xG} {M : xM} {A : Nat → Prop} (h1 : ∀ i j, i < N → j < N → Γ.2.1 i = Γ.2.1 j → i = j) (h2 : ∀ i, i < N → A (Γ.2.1 i)) : va_D A (wG N cf Γ M) := by
  have key : ∀ (k : Nat) (q : Nat × va_E), (wG N cf Γ M)[k]? = some q → k < N ∧ q.1 = Γ.2.1 k := fun k q hq => wG_W.1 M k q hq
  refine ⟨fun i j p q hi hj hpq => ?_, fun k q hq => ?_⟩
  · obtain ⟨a1, a2⟩ := key i p hi
    obtain ⟨b1, b2⟩ := key j q hj
    exact h1 i j a1 b1 (by rw [← a2, ← b2]; exact hpq)
  · obtain ⟨a1, a2⟩ := key k q hq
    rw [a2]
    exact h2 k a1
def zH (Γ : xG) (a : Nat → Nat) (s : State) (M R : xM) (H : Heap) (locs : List Loc) : Prop := va_K Γ.1 vwCl (xT Γ) s ∧ va_P Γ.1 vwCl (wX Γ M) H ∧ va_P Γ.1 vwCl (wR (gR Γ a) R) H ∧ va_S (fun q => s.heap.size ≤ q) s.heap H locs
/-- what the machine's start gives, at the law's own start -/
def zZ (U : State) : Prop := vx_Zq Bundle.tN "UNASSIGNED_STACK" Bundle.steD (fun q => U.heap.size ≤ q) U U.heap ∧ vx_Zq Bundle.tN "SUPPRESSED_SENTINEL" Bundle.listD (fun q => U.heap.size ≤ q) U U.heap ∧ (∀ E ∈ xEs, va_Nw (.castable E E) U) ∧ (∀ y ∈ xDs, va_Nw (.declares y) U) ∧ (∀ q ∈ xSs, ∃ a, vk_R RX9 q.1 q.2 a U) ∧ xNc9 U
theorem zAdX {Γ : xG} {a : Nat → Nat} {n sz : Nat} (hd : zD Γ a n) (h : n ≤ sz) {q : Nat} (hq : xAd Γ 1483 sz q) : n ≤ q := by
  rcases hq with ⟨k, hk, rfl⟩ | hq
  · exact hd.2.2.2.1 k hk
  · omega
theorem zAdR {Γ : xG} {a : Nat → Nat} {n sz : Nat} (hd : zD Γ a n) (h : n ≤ sz) {q : Nat} (hq : xAd (gR Γ a) 10 sz q) : n ≤ q := by
  rcases hq with ⟨k, hk, rfl⟩ | hq
  · exact hd.2.2.2.2 k hk
  · omega
theorem zH_X {Γ : xG} {a : Nat → Nat} {s : State} {M R : xM} {H : Heap} {locs : List Loc} (hd : zD Γ a s.heap.size) (h : zH Γ a s M R H locs) : xH Γ (wX Γ) 1483 s M H locs :=
  ⟨h.1, h.2.1, wG_D hd.1 (fun i hi => Or.inl ⟨i, hi, rfl⟩), h.2.2.2.1, fun q h1 _ => h.2.2.2.2.1 q h1 (by omega), fun q hq => Or.inr (h.2.2.2.2.2 q hq)⟩
theorem zH_R {Γ : xG} {a : Nat → Nat} {s : State} {M R : xM} {H : Heap} {locs : List Loc} (hd : zD Γ a s.heap.size) (h : zH Γ a s M R H locs) : xH (gR Γ a) (wR (gR Γ a)) 10 s R H locs :=
  ⟨h.1, h.2.2.1, wG_D hd.2.1 (fun i hi => Or.inl ⟨i, hi, rfl⟩), h.2.2.2.1, fun q h1 _ => h.2.2.2.2.1 q h1 (by omega), fun q hq => Or.inr (h.2.2.2.2.2 q hq)⟩
theorem zKR {Γ : xG} {a : Nat → Nat} {s : State} {M R : xM} {H H1 : Heap} {locs : List Loc} (hd : zD Γ a s.heap.size) (h : zH Γ a s M R H locs) (hk : ∀ q : Nat, q < H.size → ¬ xAd Γ 1483 H.size q → H1[q]? = H[q]?) : va_P Γ.1 vwCl (wR (gR Γ a) R) H1 := by
  refine h.2.2.1.kept (fun k q hq => ?_)
  have hl := (h.2.2.1 k q hq).lt
  obtain ⟨k1, k2⟩ := (wG_W (cf := cRf) (Γ := gR Γ a)).1 R k q hq
  refine hk q.1 hl (fun z => ?_)
  rcases z with ⟨j, hj, e⟩ | z
  · exact hd.2.2.1 j k hj k1 (by rw [← e, k2])
  · omega
theorem zKX {Γ : xG} {a : Nat → Nat} {s : State} {M R : xM} {H H1 : Heap} {locs : List Loc} (hd : zD Γ a s.heap.size) (h : zH Γ a s M R H locs) (hk : ∀ q : Nat, q < H.size → ¬ xAd (gR Γ a) 10 H.size q → H1[q]? = H[q]?) : va_P Γ.1 vwCl (wX Γ M) H1 := by
  refine h.2.1.kept (fun k q hq => ?_)
  have hl := (h.2.1 k q hq).lt
  obtain ⟨k1, k2⟩ := (wG_W (cf := cXf) (Γ := Γ)).1 M k q hq
  refine hk q.1 hl (fun z => ?_)
  rcases z with ⟨j, hj, e⟩ | z
  · exact hd.2.2.1 k j k1 hj (by rw [← k2, e])
  · omega
theorem zPreL {Γ : xG} {a : Nat → Nat} {s : State} {M R : xM} {H : Heap} {locs : List Loc} (hd : zD Γ a s.heap.size) (hz : zZ s) (h : zH Γ a s M R H locs) (U : State) (hU : U.heap = H) (hW : s.WarmedH U.vm) : xPreL Γ (wX Γ) 1483 M H.size U := by
  obtain ⟨h1, h2, h3, h5, h4, h6⟩ := hz
  refine ⟨⟨xH_pre (zH_X hd h) U hU hW, ?_, ?_, fun E hE => va_Nw.warmC hW (h3 E hE), fun y hy => va_Nw.warmD hW (h5 y hy), fun q hq => ?_⟩, xNc9_moved hW.alike h6⟩
  · rw [hU]; exact vx_Zq.moved hW.alike ((h1.kept h.2.2.2.2.1).narrow (fun q hq => zAdX hd h.2.2.2.1 hq))
  · rw [hU]; exact vx_Zq.moved hW.alike ((h2.kept h.2.2.2.2.1).narrow (fun q hq => zAdX hd h.2.2.2.1 hq))
  · obtain ⟨b, h7⟩ := h4 q hq
    exact ⟨b, vk_R.warm hW h7⟩
theorem zgS {big : List Cond} (hb : ∀ w ∈ xU, w ∈ big) {own : String} {idx : Nat} {y : MethodName} {cc : ByteArray} {n : Nat} {r : Option FieldType} {hh : List (Nat × Nat × Nat × Nat)} (h1 : Cond.methodLink own idx y ∈ xU) (h2 : Cond.static y ∈ xU) (h4 : Cond.initialized y.cls ∈ xU) (h5 : Cond.codeWith y cc n r hh ∈ xU) : GoodIn big (va_wsS own idx y (xWh y cc n r hh)) := by
  refine goodIn_app (fun w hw => ?_) (fun w hw => (List.mem_cons.mp hw).elim (fun e => by rw [e]; exact xg_U hb h5) (fun hw => xg_U hb hw))
  simp only [List.mem_cons, List.not_mem_nil, or_false] at hw
  rcases hw with rfl | rfl | rfl
  · exact xg_U hb h1
  · exact xg_U hb h2
  · exact xg_U hb h4
section ZROWS
variable {p : Program} {l : Launch} {e : Env} {R9 : Room} {s : State} {m : MethodId} {args : Array Value} {below : List Frame} {meth : Method} {c : Code} {H : Heap} {locs : List Loc} {cells slots : Nat} {Q : State → Prop}
variable {cc bytes : ByteArray} {pc : Nat} {ls : Array Slot} {rest st0 : List Value} {Γ : xG} {a : Nat → Nat} {M R : xM} {y : MethodName} {maxL nL index n mc ms : Nat} {ret : Option FieldType} {rm : Room} {own C : String} {Ts ws : List Cond} {As : List Value}
/-- one of the law's own small methods, on the class's world -/
theorem z_L {hh : List (Nat × Nat × Nat × Nat)} {res : xR} (S : CallFix p m c cc nL s args Ts own) (hM : ∀ sz, Met l y ws rm (va_Pc As (xPreL Γ (wX Γ) 1483 M sz)) (xCi Γ (wX Γ) 1483 res sz) mc ms (xAd Γ 1483 sz)) (cw : vx_CSW R9 s args own index y bytes maxL ret hh ws rm mc ms n) (hd : zD Γ a s.heap.size) (hz : zZ s) (h : zH Γ a s M R H locs)
    (hn : As.length = n) (hl : ls.size = nL) (hst : st0 = As.reverse ++ rest) (hcat : (rest.map fun v => v.category).sum ≤ 8) (hdg : decode cc pc = .ok (.invokestatic index, 3)) (hf : cells + mc ≤ R9.cells ∧ slots + ms ≤ R9.slots)
    (kk : ∀ (H1 : Heap) (locs1 : List Loc), zH Γ a s res.1 R H1 locs1 → W p l e R9 s m args below meth c H1 locs1 (cells + mc) (slots + ms) Q (F0 m (pc + 3) ls (.int res.2 :: rest))) : W p l e R9 s m args below meth c H locs cells slots Q (F0 m pc ls st0) := by
  refine va_calli (vx_runSW (As := As) (rest := rest) S (hM H.size) cw ⟨xPreL_blind, fun U hU hW => ⟨rfl, zPreL hd hz h U hU hW⟩⟩ rfl hn hl hst (lv_room hcat) hdg hf) h.2.2.2 (fun q _ hq => zAdX hd h.2.2.2.1 hq) (fun q hq => zAdX hd h.2.2.2.1 hq) (fun r u t H1 locs1 ht hvm hp hB hz1 hk hS => ?_)
  subst hp
  exact kk H1 locs1 ⟨h.1, by have := hB.1; rw [ht] at this; exact this, zKR hd h hk, hS⟩
/-- the reference's methods -/
theorem z_Ri {res : xR} (S : CallFix p m c cc nL s args Ts own) (hM : ∀ sz, Met l y ws rm (va_Pc (.ref (a 0) :: As) (xPre (gR Γ a) (wR (gR Γ a)) R sz)) (xCi (gR Γ a) (wR (gR Γ a)) 10 res sz) mc ms (xAd (gR Γ a) 10 sz)) (cw : CallW R9 s args own RX10 index y bytes maxL ret ws rm mc ms n) (hd : zD Γ a s.heap.size) (h : zH Γ a s M R H locs)
    (hn : As.length = n) (hl : ls.size = nL) (hst : st0 = As.reverse ++ .ref (a 0) :: rest) (hcat : (rest.map fun v => v.category).sum ≤ 8) (hdg : decode cc pc = .ok (.invokevirtual index, 3)) (hf : cells + mc ≤ R9.cells ∧ slots + ms ≤ R9.slots)
    (kk : ∀ (H1 : Heap) (locs1 : List Loc), zH Γ a s M res.1 H1 locs1 → W p l e R9 s m args below meth c H1 locs1 (cells + mc) (slots + ms) Q (F0 m (pc + 3) ls (.int res.2 :: rest))) : W p l e R9 s m args below meth c H locs cells slots Q (F0 m pc ls st0) := by
  refine va_calli (va_runV (As := As) (rest := rest) S (hM H.size) cw ⟨xPre_blind, x_recv (zH_R hd h) kR_model rfl, fun U hU hW => ⟨rfl, xH_pre (zH_R hd h) U hU hW⟩⟩ rfl hn hl hst (lv_room hcat) hdg hf) h.2.2.2 (fun q _ hq => zAdR hd h.2.2.2.1 hq) (fun q hq => zAdR hd h.2.2.2.1 hq) (fun r u t H1 locs1 ht hvm hp hB hz1 hk hS => ?_)
  subst hp
  exact kk H1 locs1 ⟨h.1, zKX hd h hk, by have := hB.1; rw [ht] at this; exact this, hS⟩
theorem z_Rv {res : xR} (S : CallFix p m c cc nL s args Ts own) (hM : ∀ sz, Met l y ws rm (va_Pc (.ref (a 0) :: As) (xPre (gR Γ a) (wR (gR Γ a)) R sz)) (xCv (gR Γ a) (wR (gR Γ a)) 10 res sz) mc ms (xAd (gR Γ a) 10 sz)) (cw : CallW R9 s args own RX10 index y bytes maxL ret ws rm mc ms n) (hd : zD Γ a s.heap.size) (h : zH Γ a s M R H locs)
    (hn : As.length = n) (hl : ls.size = nL) (hst : st0 = As.reverse ++ .ref (a 0) :: rest) (hcat : (rest.map fun v => v.category).sum ≤ 8) (hdg : decode cc pc = .ok (.invokevirtual index, 3)) (hf : cells + mc ≤ R9.cells ∧ slots + ms ≤ R9.slots)
    (kk : ∀ (H1 : Heap) (locs1 : List Loc), zH Γ a s M res.1 H1 locs1 → W p l e R9 s m args below meth c H1 locs1 (cells + mc) (slots + ms) Q (F0 m (pc + 3) ls rest)) : W p l e R9 s m args below meth c H locs cells slots Q (F0 m pc ls st0) := by
  refine va_callv (va_runV (As := As) (rest := rest) S (hM H.size) cw ⟨xPre_blind, x_recv (zH_R hd h) kR_model rfl, fun U hU hW => ⟨rfl, xH_pre (zH_R hd h) U hU hW⟩⟩ rfl hn hl hst (lv_room hcat) hdg hf) h.2.2.2 (fun q _ hq => zAdR hd h.2.2.2.1 hq) (fun q hq => zAdR hd h.2.2.2.1 hq) (fun u t H1 locs1 ht hvm hp hB hz1 hk hS => ?_)
  subst hp
  exact kk H1 locs1 ⟨h.1, zKX hd h hk, by have := hB.1; rw [ht] at this; exact this, hS⟩
theorem z_Rd {res : xR} (S : CallFix p m c cc nL s args Ts own) (hM : ∀ sz, Met l y ws rm (va_Pc (.ref (a 0) :: As) (xPre (gR Γ a) (wR (gR Γ a)) R sz)) (xCd (gR Γ a) (wR (gR Γ a)) 10 res sz) mc ms (xAd (gR Γ a) 10 sz)) (cw : CallW R9 s args own RX10 index y bytes maxL ret ws rm mc ms n) (hd : zD Γ a s.heap.size) (h : zH Γ a s M R H locs)
    (hn : As.length = n) (hl : ls.size = nL) (hst : st0 = As.reverse ++ .ref (a 0) :: rest) (hcat : (rest.map fun v => v.category).sum ≤ 8) (hdg : decode cc pc = .ok (.invokevirtual index, 3)) (hf : cells + mc ≤ R9.cells ∧ slots + ms ≤ R9.slots)
    (kk : ∀ (H1 : Heap) (locs1 : List Loc), zH Γ a s M res.1 H1 locs1 → W p l e R9 s m args below meth c H1 locs1 (cells + mc) (slots + ms) Q (F0 m (pc + 3) ls (.double (res.1.2 5000 0).toUInt64 :: rest))) : W p l e R9 s m args below meth c H locs cells slots Q (F0 m pc ls st0) := by
  refine va_calld (va_runV (As := As) (rest := rest) S (hM H.size) cw ⟨xPre_blind, x_recv (zH_R hd h) kR_model rfl, fun U hU hW => ⟨rfl, xH_pre (zH_R hd h) U hU hW⟩⟩ rfl hn hl hst (lv_room hcat) hdg hf) h.2.2.2 (fun q _ hq => zAdR hd h.2.2.2.1 hq) (fun q hq => zAdR hd h.2.2.2.1 hq) (fun r u t H1 locs1 ht hvm hp hB hz1 hk hS => ?_)
  obtain ⟨hp, rfl⟩ := hp
  subst hp
  exact kk H1 locs1 ⟨h.1, zKX hd h hk, by have := hB.1; rw [ht] at this; exact this, hS⟩
/-- the class's own save -/
theorem z_Xv {res : xR} (S : CallFix p m c cc nL s args Ts own) (hM : ∀ sz, Met l y ws rm (va_Pc (.ref (Γ.2.1 1470) :: As) (xPre Γ (wX Γ) M sz)) (xCv Γ (wX Γ) 1483 res sz) mc ms (xAd Γ 1483 sz)) (cw : CallW R9 s args own RX9 index y bytes maxL ret ws rm mc ms n) (hd : zD Γ a s.heap.size) (h : zH Γ a s M R H locs)
    (hn : As.length = n) (hl : ls.size = nL) (hst : st0 = As.reverse ++ .ref (Γ.2.1 1470) :: rest) (hcat : (rest.map fun v => v.category).sum ≤ 8) (hdg : decode cc pc = .ok (.invokevirtual index, 3)) (hf : cells + mc ≤ R9.cells ∧ slots + ms ≤ R9.slots)
    (kk : ∀ (H1 : Heap) (locs1 : List Loc), zH Γ a s res.1 R H1 locs1 → W p l e R9 s m args below meth c H1 locs1 (cells + mc) (slots + ms) Q (F0 m (pc + 3) ls rest)) : W p l e R9 s m args below meth c H locs cells slots Q (F0 m pc ls st0) := by
  refine va_callv (va_runV (As := As) (rest := rest) S (hM H.size) cw ⟨xPre_blind, x_recv (zH_X hd h) kX_tint rfl, fun U hU hW => ⟨rfl, xH_pre (zH_X hd h) U hU hW⟩⟩ rfl hn hl hst (lv_room hcat) hdg hf) h.2.2.2 (fun q _ hq => zAdX hd h.2.2.2.1 hq) (fun q hq => zAdX hd h.2.2.2.1 hq) (fun u t H1 locs1 ht hvm hp hB hz1 hk hS => ?_)
  subst hp
  exact kk H1 locs1 ⟨h.1, by have := hB.1; rw [ht] at this; exact this, zKR hd h hk, hS⟩
theorem z_Xi {res : xR} (S : CallFix p m c cc nL s args Ts own) (hM : ∀ sz, Met l y ws rm (va_Pc (.ref (Γ.2.1 1470) :: As) (xPre Γ (wX Γ) M sz)) (xCi Γ (wX Γ) 1483 res sz) mc ms (xAd Γ 1483 sz)) (cw : CallW R9 s args own RX9 index y bytes maxL ret ws rm mc ms n) (hd : zD Γ a s.heap.size) (h : zH Γ a s M R H locs)
    (hn : As.length = n) (hl : ls.size = nL) (hst : st0 = As.reverse ++ .ref (Γ.2.1 1470) :: rest) (hcat : (rest.map fun v => v.category).sum ≤ 8) (hdg : decode cc pc = .ok (.invokevirtual index, 3)) (hf : cells + mc ≤ R9.cells ∧ slots + ms ≤ R9.slots)
    (kk : ∀ (H1 : Heap) (locs1 : List Loc), zH Γ a s res.1 R H1 locs1 → W p l e R9 s m args below meth c H1 locs1 (cells + mc) (slots + ms) Q (F0 m (pc + 3) ls (.int res.2 :: rest))) : W p l e R9 s m args below meth c H locs cells slots Q (F0 m pc ls st0) := by
  refine va_calli (va_runV (As := As) (rest := rest) S (hM H.size) cw ⟨xPre_blind, x_recv (zH_X hd h) kX_tint rfl, fun U hU hW => ⟨rfl, xH_pre (zH_X hd h) U hU hW⟩⟩ rfl hn hl hst (lv_room hcat) hdg hf) h.2.2.2 (fun q _ hq => zAdX hd h.2.2.2.1 hq) (fun q hq => zAdX hd h.2.2.2.1 hq) (fun r u t H1 locs1 ht hvm hp hB hz1 hk hS => ?_)
  subst hp
  exact kk H1 locs1 ⟨h.1, by have := hB.1; rw [ht] at this; exact this, zKR hd h hk, hS⟩
end ZROWS
/-! small numbers as ints -/
theorem zN {n : Nat} (h : n ≤ 4000) : (Int32.ofNat n).toInt = (n : Int) := by
  rw [Int32.toInt_ofNat_of_lt (by omega)]
theorem zB {x : Int} (h1 : -2147483648 ≤ x) (h2 : x ≤ 2147483647) : x.bmod 4294967296 = x := by
  rw [Int.bmod_def]
  have h3 : x % ((4294967296 : Nat) : Int) = if 0 ≤ x then x else x + 4294967296 := by
    by_cases h : 0 ≤ x
    · rw [if_pos h]; exact Int.emod_eq_of_lt h (by omega)
    · rw [if_neg h, ← Int.add_emod_right]; exact Int.emod_eq_of_lt (by omega) (by omega)
  rw [h3]
  by_cases h : 0 ≤ x
  · rw [if_pos h]; split <;> omega
  · rw [if_neg h]; split <;> omega
theorem zAdd {a b : Int32} {x y : Int} (ha : a.toInt = x) (hb : b.toInt = y) (h1 : -2147483648 ≤ x + y) (h2 : x + y ≤ 2147483647) : (a + b).toInt = x + y := by
  rw [Int32.toInt_add, ha, hb]
  exact zB h1 h2
theorem zSub {a b : Int32} {x y : Int} (ha : a.toInt = x) (hb : b.toInt = y) (h1 : -2147483648 ≤ x - y) (h2 : x - y ≤ 2147483647) : (a - b).toInt = x - y := by
  rw [Int32.toInt_sub, ha, hb]
  exact zB h1 h2
theorem zClamp {a : Int32} {n : Nat} (h : a.toInt = (n : Int)) : a.toNatClampNeg = n := by
  rw [Int32.toNatClampNeg, h]
  rfl
theorem z_sld {p : Program} {l : Launch} {e : Env} {R9 : Room} {s : State} {m : MethodId} {args : Array Value} {below : List Frame} {meth : Method} {c : Code} {H : Heap} {locs : List Loc} {cells slots : Nat} {Q : State → Prop} {cc : ByteArray} {pc : Nat} {ls : Array Slot} {rest : List Value} {b L i : Nat} {xs : Nat → Int32} {v kc : Int32} (hx : p.tables.exec = Jvm.exec) (hb : c.code = cc) (hX : va_X b L xs s s.heap) (hbl : b < s.heap.size) (hL : L ≤ 3584) (hi : i + 7 ≤ L) (hS : va_S (fun q => s.heap.size ≤ q) s.heap H locs) {k : Nat} (hk : kc = Int32.ofNat k ∧ k < 7) (hv : xs (i + k) = v) (hdg : decode cc pc = .ok (.iaload, 1))
    (kk : W p l e R9 s m args below meth c H locs cells slots Q (F0 m (pc + 1) ls (.int v :: rest))) : W p l e R9 s m args below meth c H locs cells slots Q (F0 m pc ls (.int (Int32.ofNat i + kc) :: .ref b :: rest)) := by
  obtain ⟨rfl, hk⟩ := hk
  have e1 : (Int32.ofNat i + Int32.ofNat k).toInt = ((i + k : Nat) : Int) := by
    rw [zAdd (zN (by omega)) (zN (by omega)) (by omega) (by omega)]
    omega
  refine va_sld hx hb hX hbl (by show ¬ s.heap.size ≤ b; omega) hS ?_ hdg ?_
  · refine vp_in_iff.mpr ?_
    rw [e1]
    omega
  · rw [zClamp e1, hv]
    exact kk
