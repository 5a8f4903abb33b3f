/-! the law's own small methods: a call that may throw, each class that it may throw caught -/
def xthL (r : xE) (k : xM → Int32 → Option xR) (hd : xM → String → Option xR) : Option xR := match r.2 with
  | .inl v => k r.1 v
  | .inr E => hd r.1 E
theorem xthL_l {M : xM} {v : Int32} {k : xM → Int32 → Option xR} {hd : xM → String → Option xR} {r : xR} (h : xthL (M, Sum.inl v) k hd = some r) : k M v = some r := h
theorem xthL_r {M : xM} {E : String} {k : xM → Int32 → Option xR} {hd : xM → String → Option xR} {r : xR} (h : xthL (M, Sum.inr E) k hd = some r) : hd M E = some r := h
def xNc9 (U : State) : Prop := ∀ E ∈ xEs, ∀ E' ∈ xEs, E ≠ E' → va_Nc E E' U
def xPreL (Γ : xG) (w : xM → va_W) (N : Nat) (M : xM) (sz : Nat) : State → Prop := fun U => xPreZ Γ w N M sz U ∧ xNc9 U
theorem xNc9_moved {u U : State} (hvm : u.vm.Alike U.vm) (h : xNc9 u) : xNc9 U := fun E hE E' hE' hne => va_Nc.moved hvm (h E hE E' hE' hne)
theorem xPreL_blind {Γ : xG} {w : xM → va_W} {N : Nat} {M : xM} {sz : Nat} {As : List Value} : FrameBlind (va_Pc As (xPreL Γ w N M sz)) := fun a U g mk q => ⟨q.1, (xPreZ_blind (As := As) a U g mk ⟨q.1, q.2.1⟩).2, xNc9_moved (Vm.Alike.refl U.vm) q.2.2⟩
abbrev xWh (y : MethodName) (cc : ByteArray) (n : Nat) (r : Option FieldType) (hh : List (Nat × Nat × Nat × Nat)) : List Cond := Cond.codeWith y cc n r hh :: xU
theorem xWh_sub {y : MethodName} {cc : ByteArray} {n : Nat} {r : Option FieldType} {hh : List (Nat × Nat × Nat × Nat)} : ∀ w ∈ xU, w ∈ xWh y cc n r hh := fun _ h => List.mem_cons_of_mem _ h
theorem pnL : plainName RL = true := by decide +kernel
/-- a method with handlers: its contract out of the walk of its body -/
theorem x_Lmet {l : Launch} {y : MethodName} {cc : ByteArray} {maxL : Nat} {ret : Option FieldType} {hh : List (Nat × Nat × Nat × Nat)} {ws' : List Cond} {Γ : xG} {w : xM → va_W} {N : Nat} {M : xM} {rm : Room} {mc ms : Nat} {Qc : Nat → Array Value → State → Outcome → State → Prop} {As : List Value} (hy : plainName y.cls = true) (hw : xW Γ w N) (hlen : (lg_sl As).length ≤ maxL)
    (body : ∀ p e s m args below meth c, xEv p s m args meth c y.cls cc maxL ret (Cond.codeWith y cc maxL ret hh :: ws') → c.exceptionTable.toList = tableOf hh → xZ Γ N s.heap.size s → xNc9 s → xH Γ w N s M s.heap [] → ∀ ls, lv_has ls maxL (lv_args 0 As) → W p l e rm s m args below meth c s.heap [] 0 0 (MQ below (Qc s.heap.size) args s mc ms (xAd Γ N s.heap.size)) (F0 m 0 ls [])) (sz : Nat) :
    Met l y (Cond.codeWith y cc maxL ret hh :: ws') rm (va_Pc As (xPreL Γ w N M sz)) (Qc sz) mc ms (xAd Γ N sz) := by
  refine va_MetW (cc := cc) (maxL := maxL) (ret := ret) (hh := hh) hy rfl ?_
  intro p e s m args below meth c s₁ B hml hv
  obtain ⟨rfl, ⟨hpre, hz⟩, hnc⟩ := hv
  have hsz := hpre.1
  subst hsz
  have hts : ∀ w ∈ (Cond.codeWith y cc maxL ret hh :: ws'), w.before As.toArray s = true := atoms_spec B.pre
  rw [lg_entry_eq]
  exact body p e s m _ below meth c ⟨⟨B.exec, B.bytes, hml, findClass_of_methodNamed B.named, hts⟩, B.returns, B.notSynchronized⟩ (vx_table (x := y) B (hts _ List.mem_cons_self)) hz hnc (xH_of hw hpre) _ (lv_entry As hlen)
