/-! memory as a value: M.1 k j is the j-th int of the k-th thing (its field, or its place of a row), M.2 the same of longs; Γ: the classes' numbers, the address of each thing, the numbers of the row classes -/
abbrev xM : Type := (Nat → Nat → Int32) × (Nat → Nat → Int64)
abbrev xG : Type := va_G × (Nat → Nat) × (Nat → ClassId)
def xS (M : xM) (k : Nat) (f : Nat → Int32) : xM := (fun q => if q = k then f else M.1 q, M.2)
def xSL (M : xM) (k : Nat) (f : Nat → Int64) : xM := (M.1, fun q => if q = k then f else M.2 q)
abbrev xT (Γ : xG) : List (ClassId × FieldType) := [(Γ.2.2 0, .char), (Γ.2.2 1, .int), (Γ.2.2 2, .long), (Γ.2.2 3, .object "TintDesk$Base"), (Γ.2.2 4, .object "TintDesk$Can"), (Γ.2.2 5, .object "TintDesk$Colorant"), (Γ.2.2 6, .object "TintDesk$Desk"), (Γ.2.2 7, .object "TintDesk$Formula"), (Γ.2.2 8, .double)]
def xin (i : Int32) (n : Nat) : Bool := decide (0 ≤ i.toInt ∧ i.toInt < n)
theorem xin_in {i : Int32} {n : Nat} (h : xin i n = true) : vp_in i n := vp_in_iff.mpr (of_decide_eq_true h)
/-! the road of a value through a method: what is tested, named, called -/
def xck {α : Type} (b : Bool) (a : Option α) : Option α := if b = true then a else none
theorem xck_s {α : Type} {b : Bool} {a : Option α} {r : α} (h : xck b a = some r) : b = true ∧ a = some r := by
  unfold xck at h
  by_cases hb : b = true
  · rw [if_pos hb] at h; exact ⟨hb, h⟩
  · rw [if_neg hb] at h; cases h
def xl {α β : Type} (a : α) (k : α → β) : β := k a
theorem xl_s {α β : Type} {a : α} {k : α → Option β} {r : β} (h : xl a k = some r) : ∃ y, y = a ∧ k y = some r := ⟨a, rfl, h⟩
def xbd {α β : Type} (a : Option α) (k : α → Option β) : Option β := match a with
  | none => none
  | some y => k y
theorem xbd_s {α β : Type} {a : Option α} {k : α → Option β} {r : β} (h : xbd a k = some r) : ∃ y, a = some y ∧ k y = some r := by
  cases a with
  | none => cases h
  | some y => exact ⟨y, rfl, h⟩
theorem xif_t {α : Type} {c : Prop} {i : Decidable c} {a b : α} {r : α} (h : (if c then a else b) = r) (hc : c) : a = r := by rw [if_pos hc] at h; exact h
theorem xif_f {α : Type} {c : Prop} {i : Decidable c} {a b : α} {r : α} (h : (if c then a else b) = r) (hc : ¬ c) : b = r := by rw [if_neg hc] at h; exact h
abbrev xR : Type := xM × Int32
abbrev xE : Type := xM × (Int32 ⊕ String)
def xth (r : xE) (k : xM → Int32 → Option xE) : Option xE := match r.2 with
  | .inl v => k r.1 v
  | .inr E => some (r.1, .inr E)
/-! worlds -/
def xW (Γ : xG) (w : xM → va_W) (N : Nat) : Prop := (∀ M k q, (w M)[k]? = some q → k < N ∧ q.1 = Γ.2.1 k) ∧ ∀ M k, k < N → ∃ e, (w M)[k]? = some (Γ.2.1 k, e)
def xAd (Γ : xG) (N sz : Nat) : Nat → Prop := fun q => (∃ k, k < N ∧ q = Γ.2.1 k) ∨ sz ≤ q
theorem xAd_up {Γ : xG} {N a b : Nat} (h : a ≤ b) {q : Nat} (hq : xAd Γ N b q) : xAd Γ N a q := by
  rcases hq with h1 | h1
  · exact Or.inl h1
  · exact Or.inr (Nat.le_trans h h1)
def xH (Γ : xG) (w : xM → va_W) (N : Nat) (s : State) (M : xM) (H : Heap) (locs : List Loc) : Prop := va_K Γ.1 vwCl (xT Γ) s ∧ va_P Γ.1 vwCl (w M) H ∧ va_D (xAd Γ N s.heap.size) (w M) ∧ va_S (xAd Γ N s.heap.size) s.heap H locs
def xPre (Γ : xG) (w : xM → va_W) (M : xM) (sz : Nat) : State → Prop := fun U => U.heap.size = sz ∧ va_P Γ.1 vwCl (w M) U.heap ∧ va_K Γ.1 vwCl (xT Γ) U ∧ va_D (fun _ => True) (w M)
def xB (Γ : xG) (w : xM → va_W) (N sz : Nat) (M : xM) (t : State) : Prop := va_P Γ.1 vwCl (w M) t.heap ∧ va_K Γ.1 vwCl (xT Γ) t ∧ va_D (xAd Γ N sz) (w M)
theorem xPre_blind {Γ : xG} {w : xM → va_W} {M : xM} {sz : Nat} {As : List Value} : FrameBlind (va_Pc As (xPre Γ w M sz)) := fun a U g mk q => ⟨q.1, q.2.1, q.2.2.1, va_K.moved (u := U) (U := U.calling g mk a) (Vm.Alike.refl U.vm) q.2.2.2.1, q.2.2.2.2⟩
theorem xH_pre {Γ : xG} {w : xM → va_W} {N : Nat} {s : State} {M : xM} {H : Heap} {locs : List Loc} (h : xH Γ w N s M H locs) (U : State) (hU : U.heap = H) (hW : s.WarmedH U.vm) : xPre Γ w M H.size U := ⟨by rw [hU], by rw [hU]; exact h.2.1, va_K.moved hW.alike h.1, h.2.2.1.weaken (fun _ _ _ _ => trivial)⟩
theorem xH_of {Γ : xG} {w : xM → va_W} {N : Nat} {s : State} {M : xM} (hw : xW Γ w N) (h : xPre Γ w M s.heap.size s) : xH Γ w N s M s.heap [] := ⟨h.2.2.1, h.2.1, h.2.2.2.weaken (fun k q hq _ => Or.inl ⟨k, (hw.1 M k q hq).1, (hw.1 M k q hq).2⟩), va_S.rf⟩
theorem xH_back {Γ : xG} {w : xM → va_W} {N : Nat} {s t : State} {M M1 : xM} {H H1 : Heap} {locs locs1 : List Loc} (h : xH Γ w N s M H locs) (ht : t.heap = H1) (hB : xB Γ w N H.size M1 t) (hS : va_S (xAd Γ N s.heap.size) s.heap H1 locs1) : xH Γ w N s M1 H1 locs1 := ⟨h.1, by have := hB.1; rw [ht] at this; exact this, hB.2.2.weaken (fun _ _ _ hq => xAd_up h.2.2.2.1 hq), hS⟩
theorem xH_B {Γ : xG} {w : xM → va_W} {N : Nat} {s t : State} {M : xM} {H : Heap} {locs : List Loc} (h : xH Γ w N s M H locs) (ht : t.heap = H) (hW : s.vm.Alike t.vm) : xB Γ w N s.heap.size M t := ⟨by rw [ht]; exact h.2.1, va_K.moved hW h.1, h.2.2.1⟩
/-! what stands at a place: an int row, a char row, a long row, a row of things, an object -/
def xI (Γ : xG) (w : xM → va_W) (k n : Nat) : Prop := (∀ M, (w M)[k]? = some (Γ.2.1 k, .inl (Γ.2.2 1, n, .inl (M.1 k)))) ∧ ∀ M f, (w M).set k (Γ.2.1 k, .inl (Γ.2.2 1, n, .inl f)) = w (xS M k f)
def xC (Γ : xG) (w : xM → va_W) (k n : Nat) : Prop := (∀ M, (w M)[k]? = some (Γ.2.1 k, .inl (Γ.2.2 0, n, .inl (M.1 k)))) ∧ ∀ M f, (w M).set k (Γ.2.1 k, .inl (Γ.2.2 0, n, .inl f)) = w (xS M k f)
def xJ (Γ : xG) (w : xM → va_W) (k n : Nat) : Prop := (∀ M, (w M)[k]? = some (Γ.2.1 k, .inl (Γ.2.2 2, n, .inr (.inl (M.2 k))))) ∧ ∀ M f, (w M).set k (Γ.2.1 k, .inl (Γ.2.2 2, n, .inr (.inl f))) = w (xSL M k f)
def xQ (Γ : xG) (w : xM → va_W) (t : Nat) (k n : Nat) (g : Nat → Nat) : Prop := ∃ f : Nat → Option Nat, (∀ j, j < n → f j = some (Γ.2.1 (g j))) ∧ ∀ M, (w M)[k]? = some (Γ.2.1 k, .inl (Γ.2.2 t, n, .inr (.inr (.inr (.inr f)))))
def xO (Γ : xG) (w : xM → va_W) (k ci : Nat) (fl : (Nat → Int32) → List Value) : Prop := (∀ M, (w M)[k]? = some (Γ.2.1 k, .inr (ci, fl (M.1 k)))) ∧ ∀ M r, (w M).set k (Γ.2.1 k, .inr (ci, fl r)) = w (xS M k r)
section XROWS
variable {p : Program} {l : Launch} {e : Env} {R : Room} {s : State} {m : MethodId} {args : Array Value} {below : List Frame} {meth : Method} {c : Code} {H : Heap} {locs : List Loc} {cells slots : Nat} {Q : State → Prop}
variable {cc : ByteArray} {pc : Nat} {ls : Array Slot} {rest : List Value} {Γ : xG} {w : xM → va_W} {N : Nat} {M : xM}
theorem x_iald (hx : p.tables.exec = Jvm.exec) (hb : c.code = cc) (h : xH Γ w N s M H locs) {k n : Nat} (hc : xI Γ w k n) {i : Int32} (hi : vp_in i n) (hdg : decode cc pc = .ok (.iaload, 1))
    (kk : W p l e R s m args below meth c H locs cells slots Q (F0 m (pc + 1) ls (.int (M.1 k i.toNatClampNeg) :: rest))) : W p l e R s m args below meth c H locs cells slots Q (F0 m pc ls (.int i :: .ref (Γ.2.1 k) :: rest)) := va_iald hx hb h.1 h.2.1 k 1 (hc.1 M) rfl hi hdg kk
theorem x_cald (hx : p.tables.exec = Jvm.exec) (hb : c.code = cc) (h : xH Γ w N s M H locs) {k n : Nat} (hc : xC Γ w k n) {i : Int32} (hi : vp_in i n) (hdg : decode cc pc = .ok (.caload, 1))
    (kk : W p l e R s m args below meth c H locs cells slots Q (F0 m (pc + 1) ls (.int (M.1 k i.toNatClampNeg) :: rest))) : W p l e R s m args below meth c H locs cells slots Q (F0 m pc ls (.int i :: .ref (Γ.2.1 k) :: rest)) := va_cald hx hb h.1 h.2.1 k 0 (hc.1 M) rfl hi hdg kk
theorem x_lald (hx : p.tables.exec = Jvm.exec) (hb : c.code = cc) (h : xH Γ w N s M H locs) {k n : Nat} (hc : xJ Γ w k n) {i : Int32} (hi : vp_in i n) (hdg : decode cc pc = .ok (.laload, 1))
    (kk : W p l e R s m args below meth c H locs cells slots Q (F0 m (pc + 1) ls (.long (M.2 k i.toNatClampNeg) :: rest))) : W p l e R s m args below meth c H locs cells slots Q (F0 m pc ls (.int i :: .ref (Γ.2.1 k) :: rest)) := va_lald hx hb h.1 h.2.1 k 2 (hc.1 M) rfl hi hdg kk
theorem x_aald (hx : p.tables.exec = Jvm.exec) (hb : c.code = cc) (h : xH Γ w N s M H locs) {t k n : Nat} {C : String} {g : Nat → Nat} (ht : (xT Γ)[t]? = some (Γ.2.2 t, .object C)) (hc : xQ Γ w t k n g) {i : Int32} (hi : xin i n = true) (hdg : decode cc pc = .ok (.aaload, 1))
    (kk : W p l e R s m args below meth c H locs cells slots Q (F0 m (pc + 1) ls (.ref (Γ.2.1 (g i.toNatClampNeg)) :: rest))) : W p l e R s m args below meth c H locs cells slots Q (F0 m pc ls (.int i :: .ref (Γ.2.1 k) :: rest)) := by
  obtain ⟨f, hf, hg⟩ := hc
  have hin := xin_in hi
  have hlt : i.toNatClampNeg < n := Nat.not_le.mp fun q => hin (Or.inr q)
  refine va_aldq hx hb h.1 h.2.1 k t (hg M) ht hin hdg ?_
  rw [hf _ hlt]
  exact kk
theorem x_iast (hx : p.tables.exec = Jvm.exec) (hb : c.code = cc) (h : xH Γ w N s M H locs) {k n : Nat} (hc : xI Γ w k n) {i x : Int32} (hi : vp_in i n) {M1 : xM} (e1 : M1 = xS M k (upd (M.1 k) i.toNatClampNeg x)) (hdg : decode cc pc = .ok (.iastore, 1))
    (kk : ∀ (H1 : Heap) (locs1 : List Loc), xH Γ w N s M1 H1 locs1 → W p l e R s m args below meth c H1 locs1 cells slots Q (F0 m (pc + 1) ls rest)) : W p l e R s m args below meth c H locs cells slots Q (F0 m pc ls (.int x :: .int i :: .ref (Γ.2.1 k) :: rest)) := by
  refine va_iast hx hb h.1 h.2.1 h.2.2.1 h.2.2.2 k 1 (hc.1 M) rfl hi hdg (fun H1 locs1 hP hD hS => ?_)
  rw [hc.2] at hP hD
  exact kk H1 locs1 (e1 ▸ ⟨h.1, hP, hD, hS⟩)
theorem x_cast (hx : p.tables.exec = Jvm.exec) (hb : c.code = cc) (h : xH Γ w N s M H locs) {k n : Nat} (hc : xC Γ w k n) {i x : Int32} (hi : vp_in i n) {M1 : xM} (e1 : M1 = xS M k (upd (M.1 k) i.toNatClampNeg (vp_nar .char x))) (hdg : decode cc pc = .ok (.castore, 1))
    (kk : ∀ (H1 : Heap) (locs1 : List Loc), xH Γ w N s M1 H1 locs1 → W p l e R s m args below meth c H1 locs1 cells slots Q (F0 m (pc + 1) ls rest)) : W p l e R s m args below meth c H locs cells slots Q (F0 m pc ls (.int x :: .int i :: .ref (Γ.2.1 k) :: rest)) := by
  refine va_cast hx hb h.1 h.2.1 h.2.2.1 h.2.2.2 k 0 (hc.1 M) rfl hi hdg (fun H1 locs1 hP hD hS => ?_)
  rw [hc.2] at hP hD
  exact kk H1 locs1 (e1 ▸ ⟨h.1, hP, hD, hS⟩)
theorem x_last (hx : p.tables.exec = Jvm.exec) (hb : c.code = cc) (h : xH Γ w N s M H locs) {k n : Nat} (hc : xJ Γ w k n) {i : Int32} {x : Int64} (hi : vp_in i n) {M1 : xM} (e1 : M1 = xSL M k (vp_updL (M.2 k) i.toNatClampNeg x)) (hdg : decode cc pc = .ok (.lastore, 1))
    (kk : ∀ (H1 : Heap) (locs1 : List Loc), xH Γ w N s M1 H1 locs1 → W p l e R s m args below meth c H1 locs1 cells slots Q (F0 m (pc + 1) ls rest)) : W p l e R s m args below meth c H locs cells slots Q (F0 m pc ls (.long x :: .int i :: .ref (Γ.2.1 k) :: rest)) := by
  refine va_last hx hb h.1 h.2.1 h.2.2.1 h.2.2.2 k 2 (hc.1 M) rfl hi hdg (fun H1 locs1 hP hD hS => ?_)
  rw [hc.2] at hP hD
  exact kk H1 locs1 (e1 ▸ ⟨h.1, hP, hD, hS⟩)
theorem x_get {own ref C : String} {T : u_T} {n ci index k : Nat} {Ts : List Cond} {fl : (Nat → Int32) → List Value} (hx : p.tables.exec = Jvm.exec) (hb : c.code = cc) (hts : ∀ w ∈ Ts, w.before args s = true) (hin : ∀ w ∈ u_ws C T n, w ∈ Ts) (hown : s.vm.findClass own = some m.cls) (h : xH Γ w N s M H locs) (ho : xO Γ w k ci fl) (hc : vwCl[ci]? = some (C, T, n)) (j : Nat) (hj : j < n) (hlink : (Cond.fieldLink own index ref (T j).2.1 (T j).2.2.1).before args s = true) (hsame : ∀ x, s.fieldFound? (T j).1 (T j).2.1 (T j).2.2.1 = some x → s.fieldFound? ref (T j).2.1 (T j).2.2.1 = some x) {v : Value} (hv : (fl (M.1 k))[j]? = some v) (hdg : decode cc pc = .ok (.getfield index, 3))
    (kk : W p l e R s m args below meth c H locs cells slots Q (F0 m (pc + 3) ls (v :: rest))) : W p l e R s m args below meth c H locs cells slots Q (F0 m pc ls (.ref (Γ.2.1 k) :: rest)) := va_get hx hb hts hin hown h.1 h.2.1 k (ho.1 M) hc j hj hlink hsame hv hdg kk
theorem x_put {own ref C : String} {T : u_T} {n ci index k : Nat} {Ts : List Cond} {fl : (Nat → Int32) → List Value} (hx : p.tables.exec = Jvm.exec) (hb : c.code = cc) (hts : ∀ w ∈ Ts, w.before args s = true) (hin : ∀ w ∈ u_ws C T n, w ∈ Ts) (ty0 : Nat → FieldType) (hty : ∀ k, k < n → parseFieldDescriptor (T k).2.2.1 = some (ty0 k)) (hnm : ∀ a, a < n → ∀ b, b < n → a ≠ b → (T a).2.1 ≠ (T b).2.1) (hown : s.vm.findClass own = some m.cls) (h : xH Γ w N s M H locs) (ho : xO Γ w k ci fl) (hc : vwCl[ci]? = some (C, T, n)) (j : Nat) (hj : j < n) (hlink : (Cond.fieldLink own index ref (T j).2.1 (T j).2.2.1).before args s = true) (hsame : ∀ x, s.fieldFound? (T j).1 (T j).2.1 (T j).2.2.1 = some x → s.fieldFound? ref (T j).2.1 (T j).2.2.1 = some x) (hfin : (T j).2.2.2 = false) {ty : FieldType} {x : Int32} (hd : parseFieldDescriptor (T j).2.2.1 = some ty) (hn : narrow ty (.int x) = .int x) (hfit : fits ty (.int x) = true) (hl : j < (fl (M.1 k)).length) (hset : (fl (M.1 k)).set j (.int x) = fl (upd (M.1 k) j x)) {M1 : xM} (e1 : M1 = xS M k (upd (M.1 k) j x)) (hdg : decode cc pc = .ok (.putfield index, 3))
    (kk : ∀ (H1 : Heap) (locs1 : List Loc), xH Γ w N s M1 H1 locs1 → W p l e R s m args below meth c H1 locs1 cells slots Q (F0 m (pc + 3) ls rest)) : W p l e R s m args below meth c H locs cells slots Q (F0 m pc ls (.int x :: .ref (Γ.2.1 k) :: rest)) := by
  refine va_put hx hb hts hin ty0 hty hnm hown h.1 h.2.1 h.2.2.1 h.2.2.2 k (ho.1 M) hc j hj hlink hsame hfin hd hn hfit hl hdg (fun H1 locs1 hP hD hS => ?_)
  rw [hset, ho.2] at hP hD
  exact kk H1 locs1 (e1 ▸ ⟨h.1, hP, hD, hS⟩)
/-- a value gets a name -/
theorem x_nm {x y : Int32} (e1 : y = x) (k : W p l e R s m args below meth c H locs cells slots Q (F0 m pc ls (.int y :: rest))) : W p l e R s m args below meth c H locs cells slots Q (F0 m pc ls (.int x :: rest)) := e1 ▸ k
theorem x_nml {x y : Int64} (e1 : y = x) (k : W p l e R s m args below meth c H locs cells slots Q (F0 m pc ls (.long y :: rest))) : W p l e R s m args below meth c H locs cells slots Q (F0 m pc ls (.long x :: rest)) := e1 ▸ k
end XROWS
