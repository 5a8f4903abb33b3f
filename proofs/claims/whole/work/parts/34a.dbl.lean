/-! the one answer that is a double: it is kept beside the memory, at a place that no world has -/
def xnn (z : UInt64) : Bool := decide (z &&& 0x7fffffffffffffff ≤ 0x7ff0000000000000)
theorem xnn_n {z : UInt64} (h : xnn z = true) : vf_n64 z := by
  have h9 : z &&& 0x7fffffffffffffff ≤ 0x7ff0000000000000 := of_decide_eq_true h
  exact h9
theorem wG_far {N : Nat} {cf : xG → Nat → (Nat → Int32) → (Nat → Int64) → va_E} {Γ : xG} {M : xM} {f : Nat → Int64} (h : N ≤ 5000) : wG N cf Γ (xSL M 5000 f) = wG N cf Γ M := by
  unfold wG
  refine List.map_congr_left (fun k hk => ?_)
  have hk := List.mem_range.mp hk
  have e : (xSL M 5000 f).2 k = M.2 k := by
    show (if k = 5000 then f else M.2 k) = M.2 k
    rw [if_neg (by omega)]
  rw [e]
  rfl
theorem xD_b {z : UInt64} {M : xM} : ((xSL M 5000 (fun _ => z.toInt64)).2 5000 0).toUInt64 = z := by
  show ((if (5000 : Nat) = 5000 then (fun _ => z.toInt64) else M.2 5000) 0).toUInt64 = z
  rw [if_pos rfl]
  exact UInt64.toUInt64_toInt64 z
abbrev xCd (Γ : xG) (w : xM → va_W) (N : Nat) (res : xR) (sz : Nat) : Array Value → State → Outcome → State → Prop := va_Qd (S := xM) (fun r M' => (M', (0 : Int32)) = res ∧ (M'.2 5000 0).toUInt64 = r) (xB Γ w N sz) (xAd Γ N sz)
abbrev xXd (Γ : xG) (w : xM → va_W) (N : Nat) (res : xE) (sz : Nat) : Array Value → State → Outcome → State → Prop := va_Qd (S := xM) (fun r M' => (M', Sum.inl (0 : Int32)) = res ∧ (M'.2 5000 0).toUInt64 = r) (xB Γ w N sz) (xAd Γ N sz)
section
variable {p : Program} {l : Launch} {e : Env} {R : Room} {s : State} {m : MethodId} {args : Array Value} {below : List Frame} {meth : Method} {c : Code} {H : Heap} {locs : List Loc} {cells slots : Nat} {Q : State → Prop}
variable {cc bytes : ByteArray} {pc : Nat} {ls : Array Slot} {rest st0 : List Value} {Γ : xG} {w : xM → va_W} {N : Nat} {M : xM} {y : MethodName} {maxL nL index n mc ms : Nat} {ret : Option FieldType} {rm : Room} {own C : String} {Ts ws : List Cond} {As : List Value}
theorem xH_far {f : Nat → Int64} (hw : w (xSL M 5000 f) = w M) (h : xH Γ w N s M H locs) : xH Γ w N s (xSL M 5000 f) H locs := by
  obtain ⟨h1, h2, h3, h4⟩ := h
  exact ⟨h1, by rw [hw]; exact h2, by rw [hw]; exact h3, h4⟩
theorem x_dret {res : xR} {v : UInt64} (hx : p.tables.exec = Jvm.exec) (hb : c.code = cc) (h : xH Γ w N s M H locs) (hw : w (xSL M 5000 (fun _ => v.toInt64)) = w M) (e1 : (xSL M 5000 (fun _ => v.toInt64), (0 : Int32)) = res) (hr : meth.sig.returnType = some .double) (hlocks : meth.locks = false) (d : decode cc pc = .ok (.dreturn, 1)) :
    W p l e R s m args below meth c H locs cells slots (MQ below (xCd Γ w N res s.heap.size) args s cells slots (xAd Γ N s.heap.size)) (F0 m pc ls [.double v]) := W.dret hx hb hr (fun t ht hW => ⟨⟨v, _, rfl, ⟨e1, xD_b⟩, xH_B (xH_far hw h) ht hW.alike⟩, h.2.2.2.F ht⟩) h.2.2.2.2.2 d hlocks
theorem x_Xdret {res : xE} {v : UInt64} (hx : p.tables.exec = Jvm.exec) (hb : c.code = cc) (h : xH Γ w N s M H locs) (hw : w (xSL M 5000 (fun _ => v.toInt64)) = w M) (e1 : (xSL M 5000 (fun _ => v.toInt64), Sum.inl (0 : Int32)) = res) (hr : meth.sig.returnType = some .double) (hlocks : meth.locks = false) (d : decode cc pc = .ok (.dreturn, 1)) :
    W p l e R s m args below meth c H locs cells slots (vx_MQ below (xXd Γ w N res s.heap.size) (xXX Γ w N res s.heap.size) args s cells slots (xAd Γ N s.heap.size)) (F0 m pc ls [.double v]) := vx_ret (W.dret hx hb hr (fun t ht hW => ⟨⟨v, _, rfl, ⟨e1, xD_b⟩, xH_B (xH_far hw h) ht hW.alike⟩, h.2.2.2.F ht⟩) h.2.2.2.2.2 d hlocks)
theorem x_XVd {k ci : Nat} {fl : (Nat → Int32) → List Value} {T : u_T} {nf : Nat} {res : xE} (S : CallFix p m c cc nL s args Ts own) (hM : ∀ sz, vx_Met l y ws rm (va_Pc (.ref (Γ.2.1 k) :: As) (xPreZ Γ w N M sz)) (xXd Γ w N res sz) (xXX Γ w N res sz) mc ms (xAd Γ N sz)) (cw : CallW R s args own C index y bytes maxL ret ws rm mc ms n) (h : xH Γ w N s M H locs) (hz : xZ Γ N s.heap.size s) (ho : xO Γ w k ci fl) (hc : vwCl[ci]? = some (C, T, nf))
    (hn : As.length = n) (hl : ls.size = nL) (hst : st0 = As.reverse ++ .ref (Γ.2.1 k) :: rest) (hcat : (rest.map fun v => v.category).sum ≤ 8) (hdg : decode cc pc = .ok (.invokevirtual index, 3)) (hf : cells + mc ≤ R.cells ∧ slots + ms ≤ R.slots)
    (kx : ∀ (E : String) (M1 : xM), (M1, Sum.inr E) = res → ∀ (H1 : Heap) (locs1 : List Loc) (q9 : Addr) (ce : Cell), xH Γ w N s M1 H1 locs1 → H1[q9]? = some ce → ce.vm = .none → s.vm.findClass E = some ce.cls → vx_W p l e R s m args below meth c H1 locs1 (cells + mc) (slots + ms) Q (F0 m pc ls rest) q9)
    (kk : ∀ (M1 : xM), (M1, Sum.inl (0 : Int32)) = res → ∀ (H1 : Heap) (locs1 : List Loc), xH Γ w N s M1 H1 locs1 → W p l e R s m args below meth c H1 locs1 (cells + mc) (slots + ms) Q (F0 m (pc + 3) ls (.double ((M1.2 5000 0).toUInt64) :: rest))) : W p l e R s m args below meth c H locs cells slots Q (F0 m pc ls st0) := by
  refine vx_calld (vx_runV (As := As) (rest := rest) S (hM H.size) cw ⟨xPreZ_blind, x_recv h ho hc, fun U hU hW => ⟨rfl, xH_preZ h hz U hU hW⟩⟩ rfl hn hl hst (lv_room hcat) hdg hf) h.2.2.2 (fun q _ hq => x_free h hq) (fun q hq => x_free h hq) (fun q _ hq => x_free h hq) (fun E ce q9 u t H1 locs1 ht hvm _ hB hz1 hk1 hS hq9 hv9 hn9 => ?_) (fun r u t H1 locs1 ht hvm hp hB hz1 hk1 hS => ?_)
  · exact kx E u hB.1 H1 locs1 q9 ce (xH_back h ht hB.2 hS) hq9 hv9 hn9
  · have h9 := kk u hp.1 H1 locs1 (xH_back h ht hB hS)
    rw [hp.2] at h9
    exact h9
end
/-- a row of doubles -/
def xDr (Γ : xG) (w : xM → va_W) (k n : Nat) : Prop := (∀ M, (w M)[k]? = some (Γ.2.1 k, .inl (Γ.2.2 8, n, .inr (.inr (.inr (.inl (fun j => (M.2 k j).toUInt64)))))) ) ∧ ∀ M f, (w M).set k (Γ.2.1 k, .inl (Γ.2.2 8, n, .inr (.inr (.inr (.inl (fun j => (f j).toUInt64)))))) = w (xSL M k f)
theorem kX_outD {Γ : xG} : xDr Γ (wX Γ) 1482 1 := ⟨fun M => by rw [wG_get (by omega)]; rfl, fun M f => wG_set (by simp [xSL]; rfl) (fun j hj => ⟨rfl, by simp [xSL, hj]⟩)⟩
section
variable {p : Program} {l : Launch} {e : Env} {R : Room} {s : State} {m : MethodId} {args : Array Value} {below : List Frame} {meth : Method} {c : Code} {H : Heap} {locs : List Loc} {cells slots : Nat} {Q : State → Prop}
variable {cc : ByteArray} {pc : Nat} {ls : Array Slot} {rest : List Value} {Γ : xG} {w : xM → va_W} {N : Nat} {M : xM}
theorem x_dast (hx : p.tables.exec = Jvm.exec) (hb : c.code = cc) (h : xH Γ w N s M H locs) {k n : Nat} (hc : xDr Γ w k n) {i : Int32} {x : UInt64} (hi : vp_in i n) {M1 : xM} (e1 : M1 = xSL M k (vp_updL (M.2 k) i.toNatClampNeg x.toInt64)) (hdg : decode cc pc = .ok (.dastore, 1))
    (kk : ∀ (H1 : Heap) (locs1 : List Loc), xH Γ w N s M1 H1 locs1 → W p l e R s m args below meth c H1 locs1 cells slots Q (F0 m (pc + 1) ls rest)) : W p l e R s m args below meth c H locs cells slots Q (F0 m pc ls (.double x :: .int i :: .ref (Γ.2.1 k) :: rest)) := by
  refine va_dast hx hb h.1 h.2.1 h.2.2.1 h.2.2.2 k 8 (hc.1 M) rfl hi hdg (fun H1 locs1 hP hD hS => ?_)
  have e : vf_upd (fun j => (M.2 k j).toUInt64) i.toNatClampNeg x = fun j => (vp_updL (M.2 k) i.toNatClampNeg x.toInt64 j).toUInt64 := by
    funext j
    show (if j = i.toNatClampNeg then x else (M.2 k j).toUInt64) = (if j = i.toNatClampNeg then x.toInt64 else M.2 k j).toUInt64
    by_cases hj : j = i.toNatClampNeg
    · rw [if_pos hj, if_pos hj]
      exact (UInt64.toUInt64_toInt64 x).symm
    · rw [if_neg hj, if_neg hj]
  rw [e, hc.2] at hP hD
  exact kk H1 locs1 (e1 ▸ ⟨h.1, hP, hD, hS⟩)
theorem x_dald (hx : p.tables.exec = Jvm.exec) (hb : c.code = cc) (h : xH Γ w N s M H locs) {k n : Nat} (hc : xDr Γ w k n) {i : Int32} (hi : vp_in i n) (hdg : decode cc pc = .ok (.daload, 1))
    (kk : W p l e R s m args below meth c H locs cells slots Q (F0 m (pc + 1) ls (.double (M.2 k i.toNatClampNeg).toUInt64 :: rest))) : W p l e R s m args below meth c H locs cells slots Q (F0 m pc ls (.int i :: .ref (Γ.2.1 k) :: rest)) := va_dald hx hb h.1 h.2.1 k 8 (hc.1 M) rfl hi hdg kk
end
