/-! contracts and calls over a world of xM -/
def xEv (p : Program) (s : State) (m : MethodId) (args : Array Value) (meth : Method) (c : Code) (own : String) (cc : ByteArray) (nL : Nat) (ret : Option FieldType) (Ts : List Cond) : Prop := CallFix p m c cc nL s args Ts own ∧ meth.sig.returnType = ret ∧ meth.locks = false
abbrev xWs (y : MethodName) (cc : ByteArray) (n : Nat) (r : Option FieldType) : List Cond := Cond.code y cc n r :: xU
theorem xg_U {big : List Cond} {w : Cond} (hb : ∀ w ∈ xU, w ∈ big) (h : w ∈ xU) : w ∈ big ∧ ((w.onTables && w.keeps) = true ∨ ∃ ty, w = .arrayClass ty) := ⟨hb w h, good_of_word (xU_good h)⟩
theorem xgM {big : List Cond} (hb : ∀ w ∈ xU, w ∈ big) {y : MethodName} {cc : ByteArray} {n : Nat} {r : Option FieldType} (h : Cond.code y cc n r ∈ xU) : GoodIn big (xWs y cc n r) := fun w hw => (List.mem_cons.mp hw).elim (fun e => by rw [e]; exact xg_U hb h) (fun hw => xg_U hb hw)
theorem xgV {big : List Cond} (hb : ∀ w ∈ xU, w ∈ big) {own C : String} {idx : Nat} {y : MethodName} {cc : ByteArray} {n : Nat} {r : Option FieldType} (h1 : Cond.methodLink own idx y ∈ xU) (h2 : Cond.instanceMethod y ∈ xU) (h3 : Cond.selects C y y ∈ xU) (h4 : Cond.initialized C ∈ xU) (h5 : Cond.code y cc n r ∈ xU) : GoodIn big (wsV own idx C y (xWs y cc n r)) := by
  refine goodIn_app (fun w hw => ?_) (xgM hb h5)
  simp only [List.mem_cons, List.not_mem_nil, or_false] at hw
  rcases hw with rfl | rfl | rfl | rfl
  · exact xg_U hb h1
  · exact xg_U hb h2
  · exact xg_U hb h3
  · exact xg_U hb h4
theorem xgS {big : List Cond} (hb : ∀ w ∈ xU, w ∈ big) {own : String} {idx : Nat} {y : MethodName} {cc : ByteArray} {n : Nat} {r : Option FieldType} (h1 : Cond.methodLink own idx y ∈ xU) (h2 : Cond.static y ∈ xU) (h4 : Cond.initialized own ∈ xU) (h5 : Cond.code y cc n r ∈ xU) : GoodIn big (wsS own idx y (xWs y cc n r)) := by
  refine goodIn_app (fun w hw => ?_) (xgM hb h5)
  simp only [List.mem_cons, List.not_mem_nil, or_false] at hw
  rcases hw with rfl | rfl | rfl
  · exact xg_U hb h1
  · exact xg_U hb h2
  · exact xg_U hb h4
theorem xU_sub {y : MethodName} {cc : ByteArray} {n : Nat} {r : Option FieldType} : ∀ w ∈ xU, w ∈ xWs y cc n r := fun _ h => List.mem_cons_of_mem _ h
/-- the contract's ends: an int, nothing; each with the memory behind it -/
abbrev xCi (Γ : xG) (w : xM → va_W) (N : Nat) (res : xR) (sz : Nat) : Array Value → State → Outcome → State → Prop := va_Qi (S := xM) (fun r M' => (M', r) = res) (xB Γ w N sz) (xAd Γ N sz)
abbrev xCv (Γ : xG) (w : xM → va_W) (N : Nat) (res : xR) (sz : Nat) : Array Value → State → Outcome → State → Prop := va_Qv (S := xM) (fun M' => (M', (0 : Int32)) = res) (xB Γ w N sz) (xAd Γ N sz)
abbrev xXi (Γ : xG) (w : xM → va_W) (N : Nat) (res : xE) (sz : Nat) : Array Value → State → Outcome → State → Prop := va_Qi (S := xM) (fun r M' => (M', Sum.inl r) = res) (xB Γ w N sz) (xAd Γ N sz)
abbrev xXv (Γ : xG) (w : xM → va_W) (N : Nat) (res : xE) (sz : Nat) : Array Value → State → Outcome → State → Prop := va_Qv (S := xM) (fun M' => (M', Sum.inl (0 : Int32)) = res) (xB Γ w N sz) (xAd Γ N sz)
abbrev xXX (Γ : xG) (w : xM → va_W) (N : Nat) (res : xE) (sz : Nat) : String → State → State → Prop := vx_X (fun _ : xM => True) (fun E M' t => (M', Sum.inr E) = res ∧ xB Γ w N sz M' t) (xAd Γ N sz)
section XCALLS
variable {p : Program} {l : Launch} {e : Env} {R : Room} {s : State} {m : MethodId} {args : Array Value} {below : List Frame} {meth : Method} {c : Code} {H : Heap} {locs : List Loc} {cells slots : Nat} {Q : State → Prop}
variable {cc bytes : ByteArray} {pc : Nat} {ls : Array Slot} {rest st0 : List Value} {Γ : xG} {w : xM → va_W} {N : Nat} {M : xM} {y : MethodName} {maxL nL index n mc ms : Nat} {ret : Option FieldType} {rm : Room} {own C : String} {Ts ws : List Cond} {As : List Value}
theorem x_iret {res : xR} {v : Int32} (hx : p.tables.exec = Jvm.exec) (hb : c.code = cc) (h : xH Γ w N s M H locs) (e1 : (M, v) = res) (hr : meth.sig.returnType = some .int) (hlocks : meth.locks = false) (d : decode cc pc = .ok (.ireturn, 1)) :
    W p l e R s m args below meth c H locs cells slots (MQ below (xCi Γ w N res s.heap.size) args s cells slots (xAd Γ N s.heap.size)) (F0 m pc ls [.int v]) := W.iret hx hb hr (fun t ht hW => ⟨⟨v, M, rfl, e1, xH_B h ht hW.alike⟩, h.2.2.2.F ht⟩) h.2.2.2.2.2 d hlocks
theorem x_zret {res : xR} {v : Int32} {ty : FieldType} (hx : p.tables.exec = Jvm.exec) (hb : c.code = cc) (h : xH Γ w N s M H locs) (e1 : (M, v) = res) (hr : meth.sig.returnType = some ty) (hlocks : meth.locks = false) (hn : narrow ty (.int v) = .int v) (d : decode cc pc = .ok (.ireturn, 1)) :
    W p l e R s m args below meth c H locs cells slots (MQ below (xCi Γ w N res s.heap.size) args s cells slots (xAd Γ N s.heap.size)) (F0 m pc ls [.int v]) := W.zret hx hb hr hn (fun t ht hW => ⟨⟨v, M, rfl, e1, xH_B h ht hW.alike⟩, h.2.2.2.F ht⟩) h.2.2.2.2.2 d hlocks
theorem x_vret {res : xR} (hx : p.tables.exec = Jvm.exec) (hb : c.code = cc) (h : xH Γ w N s M H locs) (e1 : (M, (0 : Int32)) = res) (hr : meth.sig.returnType = none) (hlocks : meth.locks = false) (d : decode cc pc = .ok (.return_, 1)) :
    W p l e R s m args below meth c H locs cells slots (MQ below (xCv Γ w N res s.heap.size) args s cells slots (xAd Γ N s.heap.size)) (F0 m pc ls []) := W.vret hx hb hr (fun t ht hW => ⟨⟨M, rfl, e1, xH_B h ht hW.alike⟩, h.2.2.2.F ht⟩) h.2.2.2.2.2 d hlocks
theorem x_Xiret {res : xE} {v : Int32} (hx : p.tables.exec = Jvm.exec) (hb : c.code = cc) (h : xH Γ w N s M H locs) (e1 : (M, Sum.inl v) = res) (hr : meth.sig.returnType = some .int) (hlocks : meth.locks = false) (d : decode cc pc = .ok (.ireturn, 1)) :
    W p l e R s m args below meth c H locs cells slots (vx_MQ below (xXi Γ w N res s.heap.size) (xXX Γ w N res s.heap.size) args s cells slots (xAd Γ N s.heap.size)) (F0 m pc ls [.int v]) := vx_ret (W.iret hx hb hr (fun t ht hW => ⟨⟨v, M, rfl, e1, xH_B h ht hW.alike⟩, h.2.2.2.F ht⟩) h.2.2.2.2.2 d hlocks)
theorem x_Xzret {res : xE} {v : Int32} {ty : FieldType} (hx : p.tables.exec = Jvm.exec) (hb : c.code = cc) (h : xH Γ w N s M H locs) (e1 : (M, Sum.inl v) = res) (hr : meth.sig.returnType = some ty) (hlocks : meth.locks = false) (hn : narrow ty (.int v) = .int v) (d : decode cc pc = .ok (.ireturn, 1)) :
    W p l e R s m args below meth c H locs cells slots (vx_MQ below (xXi Γ w N res s.heap.size) (xXX Γ w N res s.heap.size) args s cells slots (xAd Γ N s.heap.size)) (F0 m pc ls [.int v]) := vx_ret (W.zret hx hb hr hn (fun t ht hW => ⟨⟨v, M, rfl, e1, xH_B h ht hW.alike⟩, h.2.2.2.F ht⟩) h.2.2.2.2.2 d hlocks)
theorem x_Xvret {res : xE} (hx : p.tables.exec = Jvm.exec) (hb : c.code = cc) (h : xH Γ w N s M H locs) (e1 : (M, Sum.inl (0 : Int32)) = res) (hr : meth.sig.returnType = none) (hlocks : meth.locks = false) (d : decode cc pc = .ok (.return_, 1)) :
    W p l e R s m args below meth c H locs cells slots (vx_MQ below (xXv Γ w N res s.heap.size) (xXX Γ w N res s.heap.size) args s cells slots (xAd Γ N s.heap.size)) (F0 m pc ls []) := vx_ret (W.vret hx hb hr (fun t ht hW => ⟨⟨M, rfl, e1, xH_B h ht hW.alike⟩, h.2.2.2.F ht⟩) h.2.2.2.2.2 d hlocks)
/-- not caught here -/
theorem x_Xout {res : xE} {E : String} {ce : Cell} {q : Addr} {Qc : Array Value → State → Outcome → State → Prop} (h : xH Γ w N s M H locs) (e1 : (M, Sum.inr E) = res) (hout : ∀ x ∈ c.exceptionTable.toList, False) (hlocks : meth.locks = false) (hq : H[q]? = some ce) (hv : ce.vm = .none) (hcl : s.vm.findClass E = some ce.cls) :
    vx_W p l e R s m args below meth c H locs cells slots (vx_MQ below Qc (xXX Γ w N res s.heap.size) args s cells slots (xAd Γ N s.heap.size)) (F0 m pc ls rest) q := vx_out (fun x hx => (hout x hx).elim) hlocks hq hv hcl (fun t ht hW => ⟨M, trivial, ⟨e1, xH_B h ht hW⟩, h.2.2.2.F ht⟩) h.2.2.2.2.2 (Nat.le_refl _) (Nat.le_refl _)
theorem x_free (h : xH Γ w N s M H locs) {q : Nat} (hq : xAd Γ N H.size q) : xAd Γ N s.heap.size q := xAd_up h.2.2.2.1 hq
theorem x_recv {k ci : Nat} {fl : (Nat → Int32) → List Value} {r : vw_C} (h : xH Γ w N s M H locs) (ho : xO Γ w k ci fl) (hc : vwCl[ci]? = some r) : ∃ cell : Cell, H[Γ.2.1 k]? = some cell ∧ cell.vm.isStatics = false ∧ s.vm.findClass r.1 = some cell.cls := va_recv h.1 h.2.1 hc (ho.1 M)
/-- a virtual call: an int comes back -/
theorem x_Vi {k ci : Nat} {fl : (Nat → Int32) → List Value} {T : u_T} {nf : Nat} {res : xR} (S : CallFix p m c cc nL s args Ts own) (hM : ∀ sz, Met l y ws rm (va_Pc (.ref (Γ.2.1 k) :: As) (xPre Γ w M sz)) (xCi Γ w N res sz) mc ms (xAd Γ N sz)) (cw : CallW R s args own C index y bytes maxL ret ws rm mc ms n) (h : xH Γ w N s M H locs) (ho : xO Γ w k ci fl) (hc : vwCl[ci]? = some (C, T, nf))
    (hn : As.length = n) (hl : ls.size = nL) (hst : st0 = As.reverse ++ .ref (Γ.2.1 k) :: rest) (hcat : (rest.map fun v => v.category).sum ≤ 8) (hdg : decode cc pc = .ok (.invokevirtual index, 3)) (hf : cells + mc ≤ R.cells ∧ slots + ms ≤ R.slots)
    (kk : ∀ (H1 : Heap) (locs1 : List Loc), xH Γ w N s res.1 H1 locs1 → W p l e R s m args below meth c H1 locs1 (cells + mc) (slots + ms) Q (F0 m (pc + 3) ls (.int res.2 :: rest))) : W p l e R s m args below meth c H locs cells slots Q (F0 m pc ls st0) := by
  refine va_calli (va_runV (As := As) (rest := rest) S (hM H.size) cw ⟨xPre_blind, x_recv h ho hc, fun U hU hW => ⟨rfl, xH_pre h U hU hW⟩⟩ rfl hn hl hst (lv_room hcat) hdg hf) h.2.2.2 (fun q _ hq => x_free h hq) (fun q hq => x_free h hq) (fun r u t H1 locs1 ht hvm hp hB hz hk hS => ?_)
  subst hp
  exact kk H1 locs1 (xH_back h ht hB hS)
theorem x_Vv {k ci : Nat} {fl : (Nat → Int32) → List Value} {T : u_T} {nf : Nat} {res : xR} (S : CallFix p m c cc nL s args Ts own) (hM : ∀ sz, Met l y ws rm (va_Pc (.ref (Γ.2.1 k) :: As) (xPre Γ w M sz)) (xCv Γ w N res sz) mc ms (xAd Γ N sz)) (cw : CallW R s args own C index y bytes maxL ret ws rm mc ms n) (h : xH Γ w N s M H locs) (ho : xO Γ w k ci fl) (hc : vwCl[ci]? = some (C, T, nf))
    (hn : As.length = n) (hl : ls.size = nL) (hst : st0 = As.reverse ++ .ref (Γ.2.1 k) :: rest) (hcat : (rest.map fun v => v.category).sum ≤ 8) (hdg : decode cc pc = .ok (.invokevirtual index, 3)) (hf : cells + mc ≤ R.cells ∧ slots + ms ≤ R.slots)
    (kk : ∀ (H1 : Heap) (locs1 : List Loc), xH Γ w N s res.1 H1 locs1 → W p l e R s m args below meth c H1 locs1 (cells + mc) (slots + ms) Q (F0 m (pc + 3) ls rest)) : W p l e R s m args below meth c H locs cells slots Q (F0 m pc ls st0) := by
  refine va_callv (va_runV (As := As) (rest := rest) S (hM H.size) cw ⟨xPre_blind, x_recv h ho hc, fun U hU hW => ⟨rfl, xH_pre h U hU hW⟩⟩ rfl hn hl hst (lv_room hcat) hdg hf) h.2.2.2 (fun q _ hq => x_free h hq) (fun q hq => x_free h hq) (fun u t H1 locs1 ht hvm hp hB hz hk hS => ?_)
  subst hp
  exact kk H1 locs1 (xH_back h ht hB hS)
theorem x_Si {res : xR} (S : CallFix p m c cc nL s args Ts own) (hM : ∀ sz, Met l y ws rm (va_Pc As (xPre Γ w M sz)) (xCi Γ w N res sz) mc ms (xAd Γ N sz)) (cw : CallB R s args own index y bytes maxL ret ws rm mc ms n ∧ (Cond.static y).before args s = true) (h : xH Γ w N s M H locs)
    (hn : As.length = n) (hl : ls.size = nL) (hst : st0 = As.reverse ++ rest) (hcat : (rest.map fun v => v.category).sum ≤ 8) (hdg : decode cc pc = .ok (.invokestatic index, 3)) (hf : cells + mc ≤ R.cells ∧ slots + ms ≤ R.slots)
    (kk : ∀ (H1 : Heap) (locs1 : List Loc), xH Γ w N s res.1 H1 locs1 → W p l e R s m args below meth c H1 locs1 (cells + mc) (slots + ms) Q (F0 m (pc + 3) ls (.int res.2 :: rest))) : W p l e R s m args below meth c H locs cells slots Q (F0 m pc ls st0) := by
  refine va_calli (va_runS (As := As) (rest := rest) S (hM H.size) cw ⟨xPre_blind, fun U hU hW => ⟨rfl, xH_pre h U hU hW⟩⟩ rfl hn hl hst (lv_room hcat) hdg hf) h.2.2.2 (fun q _ hq => x_free h hq) (fun q hq => x_free h hq) (fun r u t H1 locs1 ht hvm hp hB hz hk hS => ?_)
  subst hp
  exact kk H1 locs1 (xH_back h ht hB hS)
theorem x_Sv {res : xR} (S : CallFix p m c cc nL s args Ts own) (hM : ∀ sz, Met l y ws rm (va_Pc As (xPre Γ w M sz)) (xCv Γ w N res sz) mc ms (xAd Γ N sz)) (cw : CallB R s args own index y bytes maxL ret ws rm mc ms n ∧ (Cond.static y).before args s = true) (h : xH Γ w N s M H locs)
    (hn : As.length = n) (hl : ls.size = nL) (hst : st0 = As.reverse ++ rest) (hcat : (rest.map fun v => v.category).sum ≤ 8) (hdg : decode cc pc = .ok (.invokestatic index, 3)) (hf : cells + mc ≤ R.cells ∧ slots + ms ≤ R.slots)
    (kk : ∀ (H1 : Heap) (locs1 : List Loc), xH Γ w N s res.1 H1 locs1 → W p l e R s m args below meth c H1 locs1 (cells + mc) (slots + ms) Q (F0 m (pc + 3) ls rest)) : W p l e R s m args below meth c H locs cells slots Q (F0 m pc ls st0) := by
  refine va_callv (va_runS (As := As) (rest := rest) S (hM H.size) cw ⟨xPre_blind, fun U hU hW => ⟨rfl, xH_pre h U hU hW⟩⟩ rfl hn hl hst (lv_room hcat) hdg hf) h.2.2.2 (fun q _ hq => x_free h hq) (fun q hq => x_free h hq) (fun u t H1 locs1 ht hvm hp hB hz hk hS => ?_)
  subst hp
  exact kk H1 locs1 (xH_back h ht hB hS)
end XCALLS
/-- a method's contract out of the walk of its body -/
theorem x_met {l : Launch} {y : MethodName} {cc : ByteArray} {maxL : Nat} {ret : Option FieldType} {ws' : List Cond} {Γ : xG} {w : xM → va_W} {N : Nat} {M : xM} {rm : Room} {mc ms : Nat} {Qc : Nat → Array Value → State → Outcome → State → Prop} {As : List Value} (hy : plainName y.cls = true) (hw : xW Γ w N) (hlen : (lg_sl As).length ≤ maxL)
    (body : ∀ p e s m args below meth c, args = As.toArray → xEv p s m args meth c y.cls cc maxL ret (Cond.code y cc maxL ret :: ws') → xH Γ w N s M s.heap [] → ∀ ls, lv_has ls maxL (lv_args 0 As) → W p l e rm s m args below meth c s.heap [] 0 0 (MQ below (Qc s.heap.size) args s mc ms (xAd Γ N s.heap.size)) (F0 m 0 ls [])) (sz : Nat) :
    Met l y (Cond.code y cc maxL ret :: ws') rm (va_Pc As (xPre Γ w M sz)) (Qc sz) mc ms (xAd Γ N sz) := by
  refine Met.ofW (cc := cc) (maxL := maxL) (ret := ret) hy rfl ?_
  intro p e s m args below meth c s₁ B hml hv
  obtain ⟨rfl, hpre⟩ := hv
  have hz := hpre.1
  subst hz
  rw [lg_entry_eq]
  exact body p e s m _ below meth c rfl ⟨⟨B.exec, B.bytes, hml, findClass_of_methodNamed B.named, atoms_spec B.pre⟩, B.returns, B.notSynchronized⟩ (xH_of hw hpre) _ (lv_entry As hlen)
