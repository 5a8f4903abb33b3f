/-! constructors: the world grows; its cells stand in a row of n, at addresses ad, with what c says -/
theorem qOI : Cond.code objectInit ⟨#[0xb1]⟩ 1 none ∈ xU := xq1 32 (by decide +kernel)
def wS (ad : Nat → Nat) (n : Nat) (c : Nat → va_E) : va_W := (List.range n).map fun k => (ad k, c k)
theorem wS_get {ad : Nat → Nat} {n k : Nat} {c : Nat → va_E} (h : k < n) : (wS ad n c)[k]? = some (ad k, c k) := by simp [wS, h]
theorem wS_len {ad : Nat → Nat} {n : Nat} {c : Nat → va_E} : (wS ad n c).length = n := by simp [wS]
theorem wS_ext {ad ad' : Nat → Nat} {n : Nat} {c c' : Nat → va_E} (h : ∀ k, k < n → ad k = ad' k ∧ c k = c' k) : wS ad n c = wS ad' n c' := by
  unfold wS
  refine List.map_congr_left (fun k hk => ?_)
  obtain ⟨h1, h2⟩ := h k (List.mem_range.mp hk)
  rw [h1, h2]
def yCat {α : Type} (n : Nat) (f g : Nat → α) : Nat → α := fun k => if k < n then f k else g (k - n)
theorem wS_cat {ad ad1 : Nat → Nat} {n m : Nat} {c c1 : Nat → va_E} : wS ad n c ++ wS ad1 m c1 = wS (yCat n ad ad1) (n + m) (yCat n c c1) := by
  apply List.ext_getElem?
  intro k
  by_cases h1 : k < n
  · rw [List.getElem?_append_left (by rw [wS_len]; exact h1), wS_get h1, wS_get (by omega)]
    simp [yCat, h1]
  · rw [List.getElem?_append_right (by rw [wS_len]; omega), wS_len]
    by_cases h2 : k < n + m
    · rw [wS_get (by omega), wS_get h2]
      simp [yCat, h1]
    · rw [List.getElem?_eq_none (by rw [wS_len]; omega), List.getElem?_eq_none (by rw [wS_len]; omega)]
theorem wS_set {ad : Nat → Nat} {n k : Nat} {c : Nat → va_E} {e : va_E} (_h : k < n) : (wS ad n c).set k (ad k, e) = wS ad n (fun j => if j = k then e else c j) := by
  apply List.ext_getElem?
  intro j
  by_cases hj : j < n
  · by_cases hjk : j = k
    · subst hjk
      rw [List.getElem?_set_self (by rw [wS_len]; exact hj), wS_get hj, if_pos rfl]
    · rw [List.getElem?_set_ne (Ne.symm hjk), wS_get hj, wS_get hj, if_neg hjk]
  · rw [List.getElem?_eq_none (by simp [wS]; omega), List.getElem?_eq_none (by simp [wS]; omega)]
def yCs : List String := ["TintDesk$Colorant", "TintDesk$Base", "TintDesk$Formula", "TintDesk$Can", "TintDesk$Desk"]
def yLs : List (String × Nat × String) := [("TintDesk$Desk", 51, "TintDesk$Colorant"), ("TintDesk$Desk", 52, "TintDesk$Base"), ("TintDesk$Desk", 53, "TintDesk$Formula"), ("TintDesk$Desk", 54, "TintDesk$Can"), ("TintDesk", 32, "TintDesk$FormulaText"), ("TintDesk", 49, "TintDesk$LeastCorrection"), ("TintDesk", 56, "TintDesk$LabelWriter")]
def yN (U : State) : Prop := (∀ C ∈ yCs, va_AO C U) ∧ ∀ x ∈ yLs, va_Nw (.methodLinkNest x.1 x.2.1 ⟨x.2.2, "<init>", "()V"⟩ "TintDesk") U
theorem yN_warm {s U : State} (hW : s.WarmedH U.vm) (h : yN s) : yN U := ⟨fun C hC => (h.1 C hC).moved hW.alike, fun x hx => va_Nw.warmM hW (h.2 x hx)⟩
theorem yN_same {u U : State} (hv : u.vm = U.vm) (h : yN u) : yN U := ⟨fun C hC => (h.1 C hC).moved (by rw [hv]; exact Vm.Alike.refl _), fun x hx => va_Nw.same rfl hv (h.2 x hx)⟩
def yA (h0 sz : Nat) : Nat → Prop := fun q => q = h0 ∨ sz ≤ q
def yH (Γ : xG) (A : Nat → Prop) (s : State) (W : va_W) (H : Heap) (locs : List Loc) : Prop := va_K Γ.1 vwCl (xT Γ) s ∧ va_P Γ.1 vwCl W H ∧ va_D A W ∧ va_S A s.heap H locs
def yPre (Γ : xG) (h0 : Nat) (e0 : va_E) (sz : Nat) : State → Prop := fun U => U.heap.size = sz ∧ va_P Γ.1 vwCl [(h0, e0)] U.heap ∧ va_K Γ.1 vwCl (xT Γ) U ∧ yN U
abbrev yQ (Γ : xG) (h0 n : Nat) (cf : (Nat → Nat) → Nat → va_E) (sz : Nat) : Array Value → State → Outcome → State → Prop := va_Qv (S := Nat → Nat) (fun ad => ad 0 = h0) (fun ad t => va_P Γ.1 vwCl (wS ad n (cf ad)) t.heap ∧ va_K Γ.1 vwCl (xT Γ) t ∧ va_D (yA h0 sz) (wS ad n (cf ad))) (yA h0 sz)
theorem yPre_blind {Γ : xG} {h0 : Nat} {e0 : va_E} {sz : Nat} {As : List Value} : FrameBlind (va_Pc As (yPre Γ h0 e0 sz)) := fun a U g mk q => ⟨q.1, q.2.1, q.2.2.1, va_K.moved (u := U) (U := U.calling g mk a) (Vm.Alike.refl U.vm) q.2.2.2.1, yN_same (u := U) (U := U.calling g mk a) rfl q.2.2.2.2⟩
theorem yOne {D : va_G} {cl : List vw_C} {A : Nat → Prop} {h0 : Nat} {e0 : va_E} (hA : A h0) : va_D A [(h0, e0)] := by
  refine ⟨fun i j p q hi hj _ => ?_, fun k q hk => ?_⟩
  · have h1 := (List.getElem?_eq_some_iff.mp hi).1
    have h2 := (List.getElem?_eq_some_iff.mp hj).1
    simp only [List.length_cons, List.length_nil] at h1 h2
    omega
  · have := List.mem_of_getElem? hk
    rw [List.mem_singleton.mp this]
    exact hA
/-- a constructor's contract out of the walk of its body -/
theorem y_met {l : Launch} {y : MethodName} {cc : ByteArray} {maxL : Nat} {ws' : List Cond} {Γ : xG} {h0 n : Nat} {e0 : va_E} {cf : (Nat → Nat) → Nat → va_E} {rm : Room} {mc ms : Nat} (hy : plainName y.cls = true) (hyn : y.name = "<init>") (hlen : 1 ≤ maxL)
    (body : ∀ p e s m args below meth c, xEv p s m args meth c y.cls cc maxL none (Cond.code y cc maxL none :: ws') → yN s → meth.name = "<init>" → yH Γ (yA h0 s.heap.size) s [(h0, e0)] s.heap [] → ∀ ls, lv_has ls maxL [(0, .ref h0)] → W p l e rm s m args below meth c s.heap [] 0 0 (MQ below (yQ Γ h0 n cf s.heap.size) args s mc ms (yA h0 s.heap.size)) (F0 m 0 ls [])) (sz : Nat) :
    Met l y (Cond.code y cc maxL none :: ws') rm (va_Pc [.ref h0] (yPre Γ h0 e0 sz)) (yQ Γ h0 n cf sz) mc ms (yA h0 sz) := by
  refine Met.ofW (cc := cc) (maxL := maxL) (ret := none) hy rfl ?_
  intro p e s m args below meth c s₁ B hml hv
  obtain ⟨rfl, hz, hP, hK, hN⟩ := hv
  subst hz
  rw [lg_entry_eq]
  exact body p e s m _ below meth c ⟨⟨B.exec, B.bytes, hml, findClass_of_methodNamed B.named, atoms_spec B.pre⟩, B.returns, B.notSynchronized⟩ hN ((name_of_methodNamed B.named B.method).1.trans hyn) ⟨hK, hP, yOne (D := Γ.1) (cl := vwCl) (Or.inl rfl), va_S.rf⟩ _ (lv_entry [.ref h0] hlen)
theorem yRA {U : State} {cA cB : ClassId} {ty : FieldType} (h1 : va_RA U cA ty) (h2 : va_RA U cB ty) : cA = cB := by
  cases ty with
  | object C =>
    obtain ⟨_, _, _, _, _, h3⟩ := h1
    obtain ⟨_, _, _, _, _, h4⟩ := h2
    exact Option.some.inj (h3.symm.trans h4)
  | _ => exact Option.some.inj ((show U.vm.findClass _ = some cA from h1).symm.trans h2)
/-- what a constructor's callee gives back beside what its caller kept -/
theorem y_join {A0 : Nat → Prop} {D : va_G} {cl : List vw_C} {wr w1 : va_W} {q : Nat} {e0 : va_E} {H H1 : Heap} (hP : va_P D cl (wr ++ [(q, e0)]) H) (hD : va_D A0 (wr ++ [(q, e0)])) (hk : ∀ x : Nat, x < H.size → ¬ yA q H.size x → H1[x]? = H[x]?) (hF : ∀ x, yA q H.size x → A0 x) (hP1 : va_P D cl w1 H1) (hD1 : va_D (yA q H.size) w1) : va_P D cl (wr ++ w1) H1 ∧ va_D A0 (wr ++ w1) := by
  have up : ∀ (k : Nat) (x : Nat × va_E), wr[k]? = some x → (wr ++ [(q, e0)])[k]? = some x ∧ k < wr.length := fun k x hx => by
    have hl := (List.getElem?_eq_some_iff.mp hx).1
    exact ⟨by rw [List.getElem?_append_left hl]; exact hx, hl⟩
  have last : (wr ++ [(q, e0)])[wr.length]? = some (q, e0) := by simp
  have apart : ∀ (k : Nat) (x : Nat × va_E), wr[k]? = some x → x.1 < H.size ∧ ¬ yA q H.size x.1 := by
    intro k x hx
    obtain ⟨h1, h2⟩ := up k x hx
    have hl := (hP k x h1).lt
    refine ⟨hl, fun h => ?_⟩
    rcases h with h | h
    · have := hD.1 k wr.length x (q, e0) h1 last h
      omega
    · omega
  refine ⟨va_P.app (fun k x hx => ?_) hP1, va_D.app ⟨fun i j a b hi hj hab => hD.1 i j a b (up i a hi).1 (up j b hj).1 hab, fun k x hx => hD.2 k x (up k x hx).1⟩ (hD1.weaken (fun k x _ h => hF x.1 h)) (fun i j x z hx hz hxz => ?_)⟩
  · obtain ⟨g1, g2⟩ := apart k x hx
    exact (hP k x (up k x hx).1).kept (hk x.1 g1 g2)
  · exact (apart i x hx).2 (by rw [hxz]; exact hD1.2 j z hz)
section YROWS
variable {p : Program} {l : Launch} {e : Env} {R : Room} {s : State} {m : MethodId} {args : Array Value} {below : List Frame} {meth : Method} {c : Code} {H : Heap} {locs : List Loc} {cells slots : Nat} {Q : State → Prop}
variable {cc bytes : ByteArray} {pc : Nat} {ls : Array Slot} {rest st0 : List Value} {Γ : xG} {A : Nat → Prop} {Ws : va_W}
theorem y_newa (hx : p.tables.exec = Jvm.exec) (hb : c.code = cc) {atype : ArrayType} {ty : FieldType} (t : Nat) (hty : newarray.typeOf atype = ty) (harr : (Cond.arrayClass ty).before args s = true) (h : yH Γ A s Ws H locs) (hA : ∀ q, s.heap.size ≤ q → A q) (ht : (xT Γ)[t]? = some (Γ.2.2 t, ty))
    {n : Int32} {N' : Nat} {a0 : vp_A} (ha : ∀ cA : ClassId, vp_cell cA a0 = arrV cA N' (fun _ => defaultValue ty)) (hn : ¬ n < 0) (hN : n.toNatClampNeg = N') (hbytes : N' * componentBytes ty ≤ 536870912) (hcells : cells + 1 ≤ R.cells) (hslots : slots + N' ≤ R.slots) (hdg : decode cc pc = .ok (.newarray atype, 2))
    (kk : ∀ (q : Nat) (H1 : Heap), yH Γ A s (Ws ++ [(q, .inl (Γ.2.2 t, a0))]) H1 locs → W p l e R s m args below meth c H1 locs (cells + 1) (slots + N') Q (F0 m (pc + 2) ls (.ref q :: rest))) : W p l e R s m args below meth c H locs cells slots Q (F0 m pc ls (.int n :: rest)) := by
  refine va_newa hx hb (by rw [hty]; exact harr) hty h.1 h.2.1 h.2.2.1 h.2.2.2 hA ha hn hN hbytes hcells hslots hdg (fun q cA H1 hK hP hD hS => ?_)
  have h1 := (hK.2 (xT Γ).length (cA, ty) (by rw [List.getElem?_append_right (Nat.le_refl _), Nat.sub_self]; rfl)).2
  have h2 := (h.1.2 t (Γ.2.2 t, ty) ht).2
  have h3 := yRA h1 h2
  subst h3
  exact kk q H1 ⟨h.1, hP, hD, hS⟩
theorem y_newq (hx : p.tables.exec = Jvm.exec) (hb : c.code = cc) {own C : String} {index : Nat} (t : Nat) (hown : s.vm.findClass own = some m.cls) (hclink : (Cond.classLink own index C).before args s = true) (hover : va_AO C s) (h : yH Γ A s Ws H locs) (hA : ∀ q, s.heap.size ≤ q → A q) (ht : (xT Γ)[t]? = some (Γ.2.2 t, .object C))
    {n : Int32} {N' : Nat} (hn : ¬ n < 0) (hN : n.toNatClampNeg = N') (hbytes : N' * 4 ≤ 536870912) (hcells : cells + 1 ≤ R.cells) (hslots : slots + N' ≤ R.slots) (hdg : decode cc pc = .ok (.anewarray index, 3))
    (kk : ∀ (q : Nat) (H1 : Heap), yH Γ A s (Ws ++ [(q, .inl (Γ.2.2 t, N', .inr (.inr (.inr (.inr (fun _ => none))))))]) H1 locs → W p l e R s m args below meth c H1 locs (cells + 1) (slots + N') Q (F0 m (pc + 3) ls (.ref q :: rest))) : W p l e R s m args below meth c H locs cells slots Q (F0 m pc ls (.int n :: rest)) := by
  refine va_newq hx hb hown hclink hover h.1 h.2.1 h.2.2.1 h.2.2.2 hA hn hN hbytes hcells hslots hdg (fun q cA H1 hK hP hD hS => ?_)
  have h1 := (hK.2 (xT Γ).length (cA, .object C) (by rw [List.getElem?_append_right (Nat.le_refl _), Nat.sub_self]; rfl)).2
  have h2 := (h.1.2 t (Γ.2.2 t, .object C) ht).2
  have h3 := yRA h1 h2
  subst h3
  exact kk q H1 ⟨h.1, hP, hD, hS⟩
theorem y_new {own C : String} {T : u_T} {N ci index : Nat} {Ts : List Cond} (hx : p.tables.exec = Jvm.exec) (hb : c.code = cc) (hts : ∀ w ∈ Ts, w.before args s = true) (hin : ∀ w ∈ u_ws C T N, w ∈ Ts) (ty : Nat → FieldType) (hty : ∀ k, k < N → parseFieldDescriptor (T k).2.2.1 = some (ty k)) (hown : s.vm.findClass own = some m.cls) (hcl : (Cond.classLink own index C).before args s = true) (hinst : (Cond.instantiable C N).before args s = true) (hini : (Cond.initialized C).before args s = true)
    (h : yH Γ A s Ws H locs) (hA : ∀ q, s.heap.size ≤ q → A q) (hc : vwCl[ci]? = some (C, T, N)) {fs : List Value} (hfs : ∀ j, j < N → defaultValue (ty j) = vp_V fs j) (hcells : cells + 1 ≤ R.cells) (hslots : slots + N ≤ R.slots) (hdg : decode cc pc = .ok (.new index, 3))
    (kk : ∀ (q : Nat) (H1 : Heap), yH Γ A s (Ws ++ [(q, .inr (ci, fs))]) H1 locs → W p l e R s m args below meth c H1 locs (cells + 1) (slots + N) Q (F0 m (pc + 3) ls (.ref q :: rest))) : W p l e R s m args below meth c H locs cells slots Q (F0 m pc ls rest) := by
  refine va_new hx hb hts hin ty hty hown hcl hinst hini h.1 h.2.1 h.2.2.1 h.2.2.2 hA hc hfs hcells hslots hdg (fun q H1 hP hD hS => ?_)
  exact kk q H1 ⟨h.1, hP, hD, hS⟩
theorem y_putF {own ref C : String} {T : u_T} {N ci index : Nat} {Ts : List Cond} (hx : p.tables.exec = Jvm.exec) (hb : c.code = cc) (hts : ∀ w ∈ Ts, w.before args s = true) (hin : ∀ w ∈ u_ws C T N, w ∈ Ts) (ty0 : Nat → FieldType) (hty : ∀ k, k < N → parseFieldDescriptor (T k).2.2.1 = some (ty0 k)) (hnm : ∀ a, a < N → ∀ b, b < N → a ≠ b → (T a).2.1 ≠ (T b).2.1) (hown : s.vm.findClass own = some m.cls) (h : yH Γ A s Ws H locs) (q0 : Nat) {a : Nat} {fs : List Value} (he : Ws[q0]? = some (a, .inr (ci, fs))) (hc : vwCl[ci]? = some (C, T, N)) (k : Nat) (hk : k < N) (hlink : (Cond.fieldLink own index ref (T k).2.1 (T k).2.2.1).before args s = true) (hsame : ∀ x, s.fieldFound? (T k).1 (T k).2.1 (T k).2.2.1 = some x → s.fieldFound? ref (T k).2.1 (T k).2.2.1 = some x) (hfin : (T k).2.2.2 = true) (hin2 : meth.name = "<init>") (hdecl : (T k).1 = own) {ty : FieldType} {v : Value} (hd : parseFieldDescriptor (T k).2.2.1 = some ty) (hn : narrow ty v = v) (hfit : fits ty v = true) (hl : k < fs.length)
    (hdg : decode cc pc = .ok (.putfield index, 3)) (kk : ∀ (H1 : Heap) (locs1 : List Loc), yH Γ A s (Ws.set q0 (a, .inr (ci, fs.set k v))) H1 locs1 → W p l e R s m args below meth c H1 locs1 cells slots Q (F0 m (pc + 3) ls rest)) : W p l e R s m args below meth c H locs cells slots Q (F0 m pc ls (v :: .ref a :: rest)) :=
  va_putF hx hb hts hin ty0 hty hnm hown h.1 h.2.1 h.2.2.1 h.2.2.2 q0 he hc k hk hlink hsame hfin hin2 hdecl hd hn hfit hl hdg (fun H1 locs1 hP hD hS => kk H1 locs1 ⟨h.1, hP, hD, hS⟩)
theorem y_put {own ref C : String} {T : u_T} {N ci index : Nat} {Ts : List Cond} (hx : p.tables.exec = Jvm.exec) (hb : c.code = cc) (hts : ∀ w ∈ Ts, w.before args s = true) (hin : ∀ w ∈ u_ws C T N, w ∈ Ts) (ty0 : Nat → FieldType) (hty : ∀ k, k < N → parseFieldDescriptor (T k).2.2.1 = some (ty0 k)) (hnm : ∀ a, a < N → ∀ b, b < N → a ≠ b → (T a).2.1 ≠ (T b).2.1) (hown : s.vm.findClass own = some m.cls) (h : yH Γ A s Ws H locs) (q0 : Nat) {a : Nat} {fs : List Value} (he : Ws[q0]? = some (a, .inr (ci, fs))) (hc : vwCl[ci]? = some (C, T, N)) (k : Nat) (hk : k < N) (hlink : (Cond.fieldLink own index ref (T k).2.1 (T k).2.2.1).before args s = true) (hsame : ∀ x, s.fieldFound? (T k).1 (T k).2.1 (T k).2.2.1 = some x → s.fieldFound? ref (T k).2.1 (T k).2.2.1 = some x) (hfin : (T k).2.2.2 = false) {ty : FieldType} {v : Value} (hd : parseFieldDescriptor (T k).2.2.1 = some ty) (hn : narrow ty v = v) (hfit : fits ty v = true) (hl : k < fs.length)
    (hdg : decode cc pc = .ok (.putfield index, 3)) (kk : ∀ (H1 : Heap) (locs1 : List Loc), yH Γ A s (Ws.set q0 (a, .inr (ci, fs.set k v))) H1 locs1 → W p l e R s m args below meth c H1 locs1 cells slots Q (F0 m (pc + 3) ls rest)) : W p l e R s m args below meth c H locs cells slots Q (F0 m pc ls (v :: .ref a :: rest)) :=
  va_put hx hb hts hin ty0 hty hnm hown h.1 h.2.1 h.2.2.1 h.2.2.2 q0 he hc k hk hlink hsame hfin hd hn hfit hl hdg (fun H1 locs1 hP hD hS => kk H1 locs1 ⟨h.1, hP, hD, hS⟩)
theorem y_get {own ref C : String} {T : u_T} {N ci index : Nat} {Ts : List Cond} (hx : p.tables.exec = Jvm.exec) (hb : c.code = cc) (hts : ∀ w ∈ Ts, w.before args s = true) (hin : ∀ w ∈ u_ws C T N, w ∈ Ts) (hown : s.vm.findClass own = some m.cls) (h : yH Γ A s Ws H locs) (q0 : Nat) {a : Nat} {fs : List Value} (he : Ws[q0]? = some (a, .inr (ci, fs))) (hc : vwCl[ci]? = some (C, T, N)) (k : Nat) (hk : k < N) (hlink : (Cond.fieldLink own index ref (T k).2.1 (T k).2.2.1).before args s = true) (hsame : ∀ x, s.fieldFound? (T k).1 (T k).2.1 (T k).2.2.1 = some x → s.fieldFound? ref (T k).2.1 (T k).2.2.1 = some x) {v : Value} (hv : fs[k]? = some v) (hdg : decode cc pc = .ok (.getfield index, 3))
    (kk : W p l e R s m args below meth c H locs cells slots Q (F0 m (pc + 3) ls (v :: rest))) : W p l e R s m args below meth c H locs cells slots Q (F0 m pc ls (.ref a :: rest)) := va_get hx hb hts hin hown h.1 h.2.1 q0 he hc k hk hlink hsame hv hdg kk
theorem y_astq (hx : p.tables.exec = Jvm.exec) (hb : c.code = cc) (h : yH Γ A s Ws H locs) (q0 t0 qk ci : Nat) {a : Nat} {cA : ClassId} {r : vw_C} {n v : Nat} {vs : List Value} {f : Nat → Option Nat} (ha : Ws[q0]? = some (a, .inl (cA, n, .inr (.inr (.inr (.inr f)))))) (ht : (xT Γ)[t0]? = some (cA, .object r.1)) (hv : Ws[qk]? = some (v, .inr (ci, vs))) (hc : vwCl[ci]? = some r) {i : Int32} (hin : vp_in i n) (hdg : decode cc pc = .ok (.aastore, 1))
    (kk : ∀ (H1 : Heap) (locs1 : List Loc), yH Γ A s (Ws.set q0 (a, .inl (cA, n, .inr (.inr (.inr (.inr (va_up f i.toNatClampNeg (some v)))))))) H1 locs1 → W p l e R s m args below meth c H1 locs1 cells slots Q (F0 m (pc + 1) ls rest)) : W p l e R s m args below meth c H locs cells slots Q (F0 m pc ls (.ref v :: .int i :: .ref a :: rest)) :=
  va_astq hx hb h.1 h.2.1 h.2.2.1 h.2.2.2 q0 t0 qk ci ha ht hv hc hin hdg (fun H1 locs1 hP hD hS => kk H1 locs1 ⟨h.1, hP, hD, hS⟩)
variable {y : MethodName} {maxL nL index n mc ms : Nat} {rm : Room} {own : String} {Ts ws : List Cond}
/-- a constructor is called, on what was made last -/
theorem y_call {q : Nat} {e0 : va_E} {cf : (Nat → Nat) → Nat → va_E} {a0 : Array Value} (hN : yN s) (h : yH Γ A s (Ws ++ [(q, e0)]) H locs) (hA : ∀ q, s.heap.size ≤ q → A q)
    (hr : (PreS s H (va_Pc [.ref q] (yPre Γ q e0 H.size)) [.ref q]) → va_Run p l e R s m args below meth c H locs cells slots mc ms (F0 m pc ls st0) rest (yQ Γ q n cf H.size a0) (yA q H.size))
    (kk : ∀ (ad : Nat → Nat) (H1 : Heap) (locs1 : List Loc), ad 0 = q → yH Γ A s (Ws ++ wS ad n (cf ad)) H1 locs1 → W p l e R s m args below meth c H1 locs1 (cells + mc) (slots + ms) Q (F0 m (pc + 3) ls rest)) : W p l e R s m args below meth c H locs cells slots Q (F0 m pc ls st0) := by
  have hq : A q := h.2.2.1.2 Ws.length (q, e0) (by simp)
  have hF : ∀ x, yA q H.size x → A x := fun x hx => by
    rcases hx with rfl | hx
    · exact hq
    · exact hA x (Nat.le_trans h.2.2.2.1 hx)
  have hPq : va_P Γ.1 vwCl [(q, e0)] H := fun k x hk => by
    have := List.mem_of_getElem? hk
    rw [List.mem_singleton.mp this]
    exact h.2.1 Ws.length _ (by simp)
  refine va_callv (hr ⟨yPre_blind, fun U hU hW => ⟨rfl, by rw [hU], by rw [hU]; exact hPq, va_K.moved hW.alike h.1, yN_warm hW hN⟩⟩) h.2.2.2 (fun x _ hx => hF x hx) hF (fun ad t H1 locs1 ht hvm hp hB hz hk hS => ?_)
  obtain ⟨hP1, hK1, hD1⟩ := hB
  rw [ht] at hP1
  obtain ⟨hP, hD⟩ := y_join h.2.1 h.2.2.1 hk hF hP1 hD1
  exact kk ad H1 locs1 hp ⟨h.1, hP, hD, hS⟩
/-- a constructor's end -/
theorem y_ret {h0 : Nat} {cf : (Nat → Nat) → Nat → va_E} (ad : Nat → Nat) (hx : p.tables.exec = Jvm.exec) (hb : c.code = cc) (h : yH Γ (yA h0 s.heap.size) s Ws H locs) (e1 : Ws = wS ad n (cf ad)) (e2 : ad 0 = h0) (hr : meth.sig.returnType = none) (hlocks : meth.locks = false) (d : decode cc pc = .ok (.return_, 1)) :
    W p l e R s m args below meth c H locs cells slots (MQ below (yQ Γ h0 n cf s.heap.size) args s cells slots (yA h0 s.heap.size)) (F0 m pc ls []) := by
  subst e1
  exact W.vret hx hb hr (fun t ht hW => ⟨⟨ad, rfl, e2, by rw [ht]; exact h.2.1, va_K.moved hW.alike h.1, h.2.2.1⟩, h.2.2.2.F ht⟩) h.2.2.2.2.2 d hlocks
end YROWS
/-- the link of a private constructor of a nest's other class -/
theorem y_cn {own host : String} {index maxL mc ms : Nat} {y : MethodName} {bytes : ByteArray} {Ts : List Cond} {rm R : Room} {args : Array Value} {s : State} (ht : ∀ w ∈ Ts, w.before args s = true) (hsub : ∀ w ∈ xU, w ∈ Ts) (hc : Cond.code y bytes maxL none ∈ xU) (hrc : rm.cells = mc) (hrs : rm.slots = ms) (hl : va_Nw (.methodLinkNest own index y host) s) (hini : Cond.initialized y.cls ∈ xU)
    (hd : y.cls ≠ "java/lang/invoke/MethodHandle" ∧ y.cls ≠ "java/lang/invoke/VarHandle" ∧ (parseMethodDescriptor y.desc).map (fun d => d.parameters.length) = some 0) (hR : rm.frames + 1 ≤ R.frames ∧ 8 + (maxL + 11) + rm.locals ≤ R.locals) : va_CN R s args own index y host bytes maxL none (xWs y bytes maxL none) rm mc ms 0 :=
  va_cnB 0 ht (xgM hsub hc) rfl hrc hrs hl (ht _ (hsub _ hini)) hd hR
theorem y_ci {own : String} {index maxL mc ms : Nat} {y : MethodName} {bytes : ByteArray} {Ts : List Cond} {rm R : Room} {args : Array Value} {s : State} (ht : ∀ w ∈ Ts, w.before args s = true) (hsub : ∀ w ∈ xU, w ∈ Ts) (hc : Cond.code y bytes maxL none ∈ xU) (hrc : rm.cells = mc) (hrs : rm.slots = ms) (hini : Cond.initialized y.cls ∈ xU) (hl : Cond.methodLink own index y ∈ xU) (him : Cond.instanceMethod y ∈ xU) (hyn : y.name = "<init>")
    (hd : y.cls ≠ "java/lang/invoke/MethodHandle" ∧ y.cls ≠ "java/lang/invoke/VarHandle" ∧ (parseMethodDescriptor y.desc).map (fun d => d.parameters.length) = some 0) (hR : rm.frames + 1 ≤ R.frames ∧ 8 + (maxL + 11) + rm.locals ≤ R.locals) : CallB R s args own index y bytes maxL none (xWs y bytes maxL none) rm mc ms 0 ∧ y.name = "<init>" ∧ (Cond.instanceMethod y).before args s = true :=
  cwI 0 ht (xgM hsub hc) rfl hrc hrs (ht _ (hsub _ hini)) (ht _ (hsub _ hl)) (ht _ (hsub _ him)) hyn hd hR
