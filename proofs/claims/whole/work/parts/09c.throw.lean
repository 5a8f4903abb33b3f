/-! methods that throw: what the machine's start gives for it, a throw, a call that may throw, a contract -/
def xEs : List String := ["java/lang/IllegalArgumentException", "java/lang/IllegalStateException", "java/lang/IndexOutOfBoundsException", "java/lang/UnsupportedOperationException", "java/util/NoSuchElementException", "java/lang/ArithmeticException"]
def xSs : List (Nat × String) := [(333, "a number is out of range"), (70, "8 colorants were made"), (337, "there is no such colorant"), (354, "refused"), (122, "there is no such lot"), (135, "6 bases were made"), (340, "there is no such base"), (159, "the buffer contains 60 characters"), (173, "the text has a fault"), (345, "there is no such formula"), (350, "there is no such can"), (227, "nothing was refused"), (229, "the latest refusal was not for reason 5"), (274, "no correction of at most 6 steps reaches it"), (289, "there is no such index"), (308, "no can of it was mixed"), (320, "no change is kept"), (328, "there is no snapshot")]
def xDs : List MethodName := [⟨"java/lang/RuntimeException", "<init>", "(Ljava/lang/String;)V"⟩, ⟨"java/lang/Exception", "<init>", "(Ljava/lang/String;)V"⟩, ⟨"java/lang/Throwable", "<init>", "(Ljava/lang/String;)V"⟩]
def xZ (Γ : xG) (N sz : Nat) (U : State) : Prop := vx_Zq Bundle.tN "UNASSIGNED_STACK" Bundle.steD (xAd Γ N sz) U U.heap ∧ vx_Zq Bundle.tN "SUPPRESSED_SENTINEL" Bundle.listD (xAd Γ N sz) U U.heap ∧ (∀ E ∈ xEs, va_Nw (.castable E E) U) ∧ (∀ y ∈ xDs, va_Nw (.declares y) U) ∧ ∀ q ∈ xSs, ∃ a, vk_R RX9 q.1 q.2 a U
def xPreZ (Γ : xG) (w : xM → va_W) (N : Nat) (M : xM) (sz : Nat) : State → Prop := fun U => xPre Γ w M sz U ∧ xZ Γ N sz U
theorem xZ_same {Γ : xG} {N sz : Nat} {u U : State} (hv : u.vm = U.vm) (hh : u.heap = U.heap) (h : xZ Γ N sz u) : xZ Γ N sz U := by
  obtain ⟨h1, h2, h3, h5, h4⟩ := h
  have ha : u.vm.Alike U.vm := by rw [hv]; exact Vm.Alike.refl U.vm
  refine ⟨?_, ?_, fun E hE => va_Nw.same rfl hv (h3 E hE), fun y hy => va_Nw.same rfl hv (h5 y hy), fun q hq => ?_⟩
  · rw [hh] at h1; exact vx_Zq.moved ha h1
  · rw [hh] at h2; exact vx_Zq.moved ha h2
  · obtain ⟨a, h6⟩ := h4 q hq
    exact ⟨a, vk_R.same hv.symm h6⟩
theorem xPreZ_blind {Γ : xG} {w : xM → va_W} {N : Nat} {M : xM} {sz : Nat} {As : List Value} : FrameBlind (va_Pc As (xPreZ Γ w N M sz)) := fun a U g mk q => ⟨q.1, (xPre_blind (As := As) a U g mk ⟨q.1, q.2.1⟩).2, xZ_same (u := U) (U := U.calling g mk a) rfl rfl q.2.2⟩
theorem xH_preZ {Γ : xG} {w : xM → va_W} {N : Nat} {s : State} {M : xM} {H : Heap} {locs : List Loc} (h : xH Γ w N s M H locs) (hz : xZ Γ N s.heap.size s) (U : State) (hU : U.heap = H) (hW : s.WarmedH U.vm) : xPreZ Γ w N M H.size U := by
  refine ⟨xH_pre h U hU hW, ?_⟩
  obtain ⟨h1, h2, h3, h5, h4⟩ := hz
  refine ⟨?_, ?_, fun E hE => va_Nw.warmC hW (h3 E hE), fun y hy => va_Nw.warmD hW (h5 y hy), fun q hq => ?_⟩
  · rw [hU]; exact vx_Zq.moved hW.alike ((h1.kept h.2.2.2.2.1).narrow (fun q hq => xAd_up h.2.2.2.1 hq))
  · rw [hU]; exact vx_Zq.moved hW.alike ((h2.kept h.2.2.2.2.1).narrow (fun q hq => xAd_up h.2.2.2.1 hq))
  · obtain ⟨a, h6⟩ := h4 q hq
    exact ⟨a, vk_R.warm hW h6⟩
abbrev xNs : List String := ["java/lang/RuntimeException", "java/lang/Exception"]
theorem xNs_fit : ∀ n ∈ xNs, Bundle.fit n = true := by decide +kernel
theorem at_IllegalArgumentException : ∀ w ∈ vx_atS RX9 175 "java/lang/IllegalArgumentException" xNs, w ∈ xU ∨ w = .castable "java/lang/IllegalArgumentException" "java/lang/IllegalArgumentException" ∨ w ∈ xDs.map Cond.declares := by decide +kernel
theorem gd_IllegalArgumentException : ∀ w ∈ vx_atS RX9 175 "java/lang/IllegalArgumentException" xNs, vx_ot w = true := by decide +kernel
theorem ft_IllegalArgumentException : Bundle.fit "java/lang/IllegalArgumentException" = true ∧ "java/lang/IllegalArgumentException" ∈ xEs := by decide +kernel
theorem at_IllegalStateException : ∀ w ∈ vx_atS RX9 72 "java/lang/IllegalStateException" xNs, w ∈ xU ∨ w = .castable "java/lang/IllegalStateException" "java/lang/IllegalStateException" ∨ w ∈ xDs.map Cond.declares := by decide +kernel
theorem gd_IllegalStateException : ∀ w ∈ vx_atS RX9 72 "java/lang/IllegalStateException" xNs, vx_ot w = true := by decide +kernel
theorem ft_IllegalStateException : Bundle.fit "java/lang/IllegalStateException" = true ∧ "java/lang/IllegalStateException" ∈ xEs := by decide +kernel
theorem at_IndexOutOfBoundsException : ∀ w ∈ vx_atS RX9 339 "java/lang/IndexOutOfBoundsException" xNs, w ∈ xU ∨ w = .castable "java/lang/IndexOutOfBoundsException" "java/lang/IndexOutOfBoundsException" ∨ w ∈ xDs.map Cond.declares := by decide +kernel
theorem gd_IndexOutOfBoundsException : ∀ w ∈ vx_atS RX9 339 "java/lang/IndexOutOfBoundsException" xNs, vx_ot w = true := by decide +kernel
theorem ft_IndexOutOfBoundsException : Bundle.fit "java/lang/IndexOutOfBoundsException" = true ∧ "java/lang/IndexOutOfBoundsException" ∈ xEs := by decide +kernel
theorem at_UnsupportedOperationException : ∀ w ∈ vx_atS RX9 356 "java/lang/UnsupportedOperationException" xNs, w ∈ xU ∨ w = .castable "java/lang/UnsupportedOperationException" "java/lang/UnsupportedOperationException" ∨ w ∈ xDs.map Cond.declares := by decide +kernel
theorem gd_UnsupportedOperationException : ∀ w ∈ vx_atS RX9 356 "java/lang/UnsupportedOperationException" xNs, vx_ot w = true := by decide +kernel
theorem ft_UnsupportedOperationException : Bundle.fit "java/lang/UnsupportedOperationException" = true ∧ "java/lang/UnsupportedOperationException" ∈ xEs := by decide +kernel
theorem ft_NoSuchElementException : Bundle.fit "java/util/NoSuchElementException" = true ∧ "java/util/NoSuchElementException" ∈ xEs := by decide +kernel
theorem at_ArithmeticException : ∀ w ∈ vx_atS RX9 310 "java/lang/ArithmeticException" xNs, w ∈ xU ∨ w = .castable "java/lang/ArithmeticException" "java/lang/ArithmeticException" ∨ w ∈ xDs.map Cond.declares := by decide +kernel
theorem gd_ArithmeticException : ∀ w ∈ vx_atS RX9 310 "java/lang/ArithmeticException" xNs, vx_ot w = true := by decide +kernel
theorem ft_ArithmeticException : Bundle.fit "java/lang/ArithmeticException" = true ∧ "java/lang/ArithmeticException" ∈ xEs := by decide +kernel
section XTHROW
variable {p : Program} {l : Launch} {e : Env} {R : Room} {s : State} {m : MethodId} {args : Array Value} {below : List Frame} {meth : Method} {c : Code} {H : Heap} {locs : List Loc} {cells slots : Nat} {Q : State → Prop}
variable {cc bytes : ByteArray} {pc : Nat} {ls : Array Slot} {rest st0 : List Value} {Γ : xG} {w : xM → va_W} {N : Nat} {M : xM} {y : MethodName} {maxL nL index n mc ms : Nat} {ret : Option FieldType} {rm : Room} {own C : String} {Ts ws : List Cond} {As : List Value}
theorem x_throw {E text : String} {ik is ic : Nat} {res : xE} {Qc : Array Value → State → Outcome → State → Prop} (hx : p.tables.exec = Jvm.exec) (hb : c.code = cc) (hlt : l.stackTraces = false) (hown : s.vm.findClass RX9 = some m.cls) (hE : Bundle.fit E = true ∧ E ∈ xEs) (hk : (Cond.classLink RX9 ik E).before args s = true) (hini : (Cond.initialized E).before args s = true) (hts : ∀ w ∈ Ts, w.before args s = true) (hsub : ∀ w ∈ xU, w ∈ Ts)
    (hat : ∀ w ∈ vx_atS RX9 ic E xNs, w ∈ xU ∨ w = .castable E E ∨ w ∈ xDs.map Cond.declares) (hgd : ∀ w ∈ vx_atS RX9 ic E xNs, vx_ot w = true) (hz : xZ Γ N s.heap.size s) (h : xH Γ w N s M H locs) (e1 : (M, Sum.inr E) = res) (hl : ls.size = nL) (hml : c.maxLocals = nL)
    (d0 : decode cc pc = .ok (.new ik, 3)) (d3 : decode cc (pc + 3) = .ok (.dup, 1)) (d4 : decode cc (pc + 4) = .ok (.ldc is, 2)) (d6 : decode cc (pc + 6) = .ok (.invokespecial ic, 3)) (d9 : decode cc (pc + 9) = .ok (.athrow, 1)) (hex : ∀ x ∈ c.exceptionTable.toList, False) (hlocks : meth.locks = false)
    (hs9 : (is, text) ∈ xSs) (hF : 5 < R.frames) (hL : 82 ≤ R.locals) (hC : cells + 1 ≤ R.cells) (hS : slots + 6 ≤ R.slots) :
    W p l e R s m args below meth c H locs cells slots (vx_MQ below Qc (xXX Γ w N res s.heap.size) args s (cells + 1) (slots + 6) (xAd Γ N s.heap.size)) (F0 m pc ls []) := by
  obtain ⟨hU, hN, h3, h5, h4⟩ := hz
  obtain ⟨sa, hstr⟩ := h4 _ hs9
  refine vx_throwS (own := RX9) (cls := E) (text := text) (names := xNs) (ik := ik) (is := is) (ic := ic) (sa := sa) (A := xAd Γ N s.heap.size) hx hb hlt hown hE.1 xNs_fit hk hini hstr (fun w hw => ?_) (fun w hw => ?_) hU hN h.2.2.2 (hl.trans hml.symm) d0 d3 d4 d6 d9 (fun x hx => (hex x hx).elim) hF (by simp only [List.map_nil, List.sum_nil]; exact hL) hC hS hlocks (fun t hW hz1 hk1 => ?_) h.2.2.2.2.2 (Nat.le_refl _) (Nat.le_refl _)
  · rcases hat w hw with h9 | h9 | h9
    · exact hts w (hsub w h9)
    · rw [h9]; exact va_Nw.use rfl (h3 E hE.2)
    · obtain ⟨y9, hy, rfl⟩ := List.mem_map.mp h9
      exact va_Nw.use rfl (h5 y9 hy)
  · rcases List.mem_cons.mp hw with rfl | hw
    · rfl
    · rcases List.mem_cons.mp hw with rfl | hw
      · rfl
      · exact hgd w hw
  · have hkk : ∀ (k : Nat) (q : Nat × va_E), (w M)[k]? = some q → t.heap[q.1]? = H[q.1]? := fun k q hq => hk1 q.1 (h.2.1 k q hq).lt
    exact ⟨M, trivial, ⟨e1, h.2.1.kept hkk, va_K.moved hW h.1, h.2.2.1⟩, Nat.le_trans h.2.2.2.1 hz1, fun q h9 h10 => (hk1 q (Nat.lt_of_lt_of_le h9 h.2.2.2.1)).trans (h.2.2.2.2.1 q h9 h10)⟩
theorem x_throwW {E text : String} {ik is ic : Nat} {res : xE} {Qc : Array Value → State → Outcome → State → Prop} (hx : p.tables.exec = Jvm.exec) (hb : c.code = cc) (hlt : l.stackTraces = false) (hown : s.vm.findClass RX9 = some m.cls) (hE : Bundle.fit E = true ∧ E ∈ xEs) (hk : (Cond.classLink RX9 ik E).before args s = true) (hini : (Cond.initialized E).before args s = true) (hts : ∀ w ∈ Ts, w.before args s = true) (hsub : ∀ w ∈ xU, w ∈ Ts)
    (hat : ∀ w ∈ vx_atS RX9 ic E xNs, w ∈ xU ∨ w = .castable E E ∨ w ∈ xDs.map Cond.declares) (hgd : ∀ w ∈ vx_atS RX9 ic E xNs, vx_ot w = true) (hz : xZ Γ N s.heap.size s) (h : xH Γ w N s M H locs) (e1 : (M, Sum.inr E) = res) (hl : ls.size = nL) (hml : c.maxLocals = nL)
    (d0 : decode cc pc = .ok (.new ik, 3)) (d3 : decode cc (pc + 3) = .ok (.dup, 1)) (d4 : decode cc (pc + 4) = .ok (.ldc_w is, 3)) (d6 : decode cc (pc + 7) = .ok (.invokespecial ic, 3)) (d9 : decode cc (pc + 10) = .ok (.athrow, 1)) (hex : ∀ x ∈ c.exceptionTable.toList, False) (hlocks : meth.locks = false)
    (hs9 : (is, text) ∈ xSs) (hF : 5 < R.frames) (hL : 82 ≤ R.locals) (hC : cells + 1 ≤ R.cells) (hS : slots + 6 ≤ R.slots) :
    W p l e R s m args below meth c H locs cells slots (vx_MQ below Qc (xXX Γ w N res s.heap.size) args s (cells + 1) (slots + 6) (xAd Γ N s.heap.size)) (F0 m pc ls []) := by
  obtain ⟨hU, hN, h3, h5, h4⟩ := hz
  obtain ⟨sa, hstr⟩ := h4 _ hs9
  refine vx_throwSW (own := RX9) (cls := E) (text := text) (names := xNs) (ik := ik) (is := is) (ic := ic) (sa := sa) (A := xAd Γ N s.heap.size) hx hb hlt hown hE.1 xNs_fit hk hini hstr (fun w hw => ?_) (fun w hw => ?_) hU hN h.2.2.2 (hl.trans hml.symm) d0 d3 d4 d6 d9 (fun x hx => (hex x hx).elim) hF (by simp only [List.map_nil, List.sum_nil]; exact hL) hC hS hlocks (fun t hW hz1 hk1 => ?_) h.2.2.2.2.2 (Nat.le_refl _) (Nat.le_refl _)
  · rcases hat w hw with h9 | h9 | h9
    · exact hts w (hsub w h9)
    · rw [h9]; exact va_Nw.use rfl (h3 E hE.2)
    · obtain ⟨y9, hy, rfl⟩ := List.mem_map.mp h9
      exact va_Nw.use rfl (h5 y9 hy)
  · rcases List.mem_cons.mp hw with rfl | hw
    · rfl
    · rcases List.mem_cons.mp hw with rfl | hw
      · rfl
      · exact hgd w hw
  · have hkk : ∀ (k : Nat) (q : Nat × va_E), (w M)[k]? = some q → t.heap[q.1]? = H[q.1]? := fun k q hq => hk1 q.1 (h.2.1 k q hq).lt
    exact ⟨M, trivial, ⟨e1, h.2.1.kept hkk, va_K.moved hW h.1, h.2.2.1⟩, Nat.le_trans h.2.2.2.1 hz1, fun q h9 h10 => (hk1 q (Nat.lt_of_lt_of_le h9 h.2.2.2.1)).trans (h.2.2.2.2.1 q h9 h10)⟩
theorem x_XVi {k ci : Nat} {fl : (Nat → Int32) → List Value} {T : u_T} {nf : Nat} {res : xE} (S : CallFix p m c cc nL s args Ts own) (hM : ∀ sz, vx_Met l y ws rm (va_Pc (.ref (Γ.2.1 k) :: As) (xPreZ Γ w N M sz)) (xXi Γ w N res sz) (xXX Γ w N res sz) mc ms (xAd Γ N sz)) (cw : CallW R s args own C index y bytes maxL ret ws rm mc ms n) (h : xH Γ w N s M H locs) (hz : xZ Γ N s.heap.size s) (ho : xO Γ w k ci fl) (hc : vwCl[ci]? = some (C, T, nf))
    (hn : As.length = n) (hl : ls.size = nL) (hst : st0 = As.reverse ++ .ref (Γ.2.1 k) :: rest) (hcat : (rest.map fun v => v.category).sum ≤ 8) (hdg : decode cc pc = .ok (.invokevirtual index, 3)) (hf : cells + mc ≤ R.cells ∧ slots + ms ≤ R.slots)
    (kx : ∀ (E : String) (M1 : xM), (M1, Sum.inr E) = res → ∀ (H1 : Heap) (locs1 : List Loc) (q9 : Addr) (ce : Cell), xH Γ w N s M1 H1 locs1 → H1[q9]? = some ce → ce.vm = .none → s.vm.findClass E = some ce.cls → vx_W p l e R s m args below meth c H1 locs1 (cells + mc) (slots + ms) Q (F0 m pc ls rest) q9)
    (kk : ∀ (v : Int32) (M1 : xM), (M1, Sum.inl v) = res → ∀ (H1 : Heap) (locs1 : List Loc), xH Γ w N s M1 H1 locs1 → W p l e R s m args below meth c H1 locs1 (cells + mc) (slots + ms) Q (F0 m (pc + 3) ls (.int v :: rest))) : W p l e R s m args below meth c H locs cells slots Q (F0 m pc ls st0) := by
  refine vx_calli (vx_runV (As := As) (rest := rest) S (hM H.size) cw ⟨xPreZ_blind, x_recv h ho hc, fun U hU hW => ⟨rfl, xH_preZ h hz U hU hW⟩⟩ rfl hn hl hst (lv_room hcat) hdg hf) h.2.2.2 (fun q _ hq => x_free h hq) (fun q hq => x_free h hq) (fun q _ hq => x_free h hq) (fun E ce q9 u t H1 locs1 ht hvm _ hB hz1 hk1 hS hq9 hv9 hn9 => ?_) (fun r u t H1 locs1 ht hvm hp hB hz1 hk1 hS => ?_)
  · exact kx E u hB.1 H1 locs1 q9 ce (xH_back h ht hB.2 hS) hq9 hv9 hn9
  · exact kk r u hp H1 locs1 (xH_back h ht hB hS)
theorem x_XVv {k ci : Nat} {fl : (Nat → Int32) → List Value} {T : u_T} {nf : Nat} {res : xE} (S : CallFix p m c cc nL s args Ts own) (hM : ∀ sz, vx_Met l y ws rm (va_Pc (.ref (Γ.2.1 k) :: As) (xPreZ Γ w N M sz)) (xXv Γ w N res sz) (xXX Γ w N res sz) mc ms (xAd Γ N sz)) (cw : CallW R s args own C index y bytes maxL ret ws rm mc ms n) (h : xH Γ w N s M H locs) (hz : xZ Γ N s.heap.size s) (ho : xO Γ w k ci fl) (hc : vwCl[ci]? = some (C, T, nf))
    (hn : As.length = n) (hl : ls.size = nL) (hst : st0 = As.reverse ++ .ref (Γ.2.1 k) :: rest) (hcat : (rest.map fun v => v.category).sum ≤ 8) (hdg : decode cc pc = .ok (.invokevirtual index, 3)) (hf : cells + mc ≤ R.cells ∧ slots + ms ≤ R.slots)
    (kx : ∀ (E : String) (M1 : xM), (M1, Sum.inr E) = res → ∀ (H1 : Heap) (locs1 : List Loc) (q9 : Addr) (ce : Cell), xH Γ w N s M1 H1 locs1 → H1[q9]? = some ce → ce.vm = .none → s.vm.findClass E = some ce.cls → vx_W p l e R s m args below meth c H1 locs1 (cells + mc) (slots + ms) Q (F0 m pc ls rest) q9)
    (kk : ∀ (M1 : xM), (M1, Sum.inl (0 : Int32)) = res → ∀ (H1 : Heap) (locs1 : List Loc), xH Γ w N s M1 H1 locs1 → W p l e R s m args below meth c H1 locs1 (cells + mc) (slots + ms) Q (F0 m (pc + 3) ls rest)) : W p l e R s m args below meth c H locs cells slots Q (F0 m pc ls st0) := by
  refine vx_callv (vx_runV (As := As) (rest := rest) S (hM H.size) cw ⟨xPreZ_blind, x_recv h ho hc, fun U hU hW => ⟨rfl, xH_preZ h hz U hU hW⟩⟩ rfl hn hl hst (lv_room hcat) hdg hf) h.2.2.2 (fun q _ hq => x_free h hq) (fun q hq => x_free h hq) (fun q _ hq => x_free h hq) (fun E ce q9 u t H1 locs1 ht hvm _ hB hz1 hk1 hS hq9 hv9 hn9 => ?_) (fun u t H1 locs1 ht hvm hp hB hz1 hk1 hS => ?_)
  · exact kx E u hB.1 H1 locs1 q9 ce (xH_back h ht hB.2 hS) hq9 hv9 hn9
  · exact kk u hp H1 locs1 (xH_back h ht hB hS)
theorem x_XSv {res : xE} (S : CallFix p m c cc nL s args Ts own) (hM : ∀ sz, vx_Met l y ws rm (va_Pc As (xPreZ Γ w N M sz)) (xXv Γ w N res sz) (xXX Γ w N res sz) mc ms (xAd Γ N sz)) (cw : CallB R s args own index y bytes maxL ret ws rm mc ms n ∧ (Cond.static y).before args s = true) (h : xH Γ w N s M H locs) (hz : xZ Γ N s.heap.size s)
    (hn : As.length = n) (hl : ls.size = nL) (hst : st0 = As.reverse ++ rest) (hcat : (rest.map fun v => v.category).sum ≤ 8) (hdg : decode cc pc = .ok (.invokestatic index, 3)) (hf : cells + mc ≤ R.cells ∧ slots + ms ≤ R.slots)
    (kx : ∀ (E : String) (M1 : xM), (M1, Sum.inr E) = res → ∀ (H1 : Heap) (locs1 : List Loc) (q9 : Addr) (ce : Cell), xH Γ w N s M1 H1 locs1 → H1[q9]? = some ce → ce.vm = .none → s.vm.findClass E = some ce.cls → vx_W p l e R s m args below meth c H1 locs1 (cells + mc) (slots + ms) Q (F0 m pc ls rest) q9)
    (kk : ∀ (M1 : xM), (M1, Sum.inl (0 : Int32)) = res → ∀ (H1 : Heap) (locs1 : List Loc), xH Γ w N s M1 H1 locs1 → W p l e R s m args below meth c H1 locs1 (cells + mc) (slots + ms) Q (F0 m (pc + 3) ls rest)) : W p l e R s m args below meth c H locs cells slots Q (F0 m pc ls st0) := by
  refine vx_callv (vx_runS (As := As) (rest := rest) S (hM H.size) cw ⟨xPreZ_blind, fun U hU hW => ⟨rfl, xH_preZ h hz U hU hW⟩⟩ rfl hn hl hst (lv_room hcat) hdg hf) h.2.2.2 (fun q _ hq => x_free h hq) (fun q hq => x_free h hq) (fun q _ hq => x_free h hq) (fun E ce q9 u t H1 locs1 ht hvm _ hB hz1 hk1 hS hq9 hv9 hn9 => ?_) (fun u t H1 locs1 ht hvm hp hB hz1 hk1 hS => ?_)
  · exact kx E u hB.1 H1 locs1 q9 ce (xH_back h ht hB.2 hS) hq9 hv9 hn9
  · exact kk u hp H1 locs1 (xH_back h ht hB hS)
end XTHROW
theorem x_Xmet {l : Launch} {y : MethodName} {cc : ByteArray} {maxL : Nat} {ret : Option FieldType} {ws' : List Cond} {Γ : xG} {w : xM → va_W} {N : Nat} {M : xM} {rm : Room} {mc ms : Nat} {Qc : Nat → Array Value → State → Outcome → State → Prop} {XC : Nat → String → State → State → Prop} {As : List Value} (hy : plainName y.cls = true) (hw : xW Γ w N) (hlen : (lg_sl As).length ≤ maxL)
    (body : ∀ p e s m args below meth c, xEv p s m args meth c y.cls cc maxL ret (Cond.code y cc maxL ret :: ws') → (∀ x ∈ c.exceptionTable.toList, False) → xZ Γ N s.heap.size s → xH Γ w N s M s.heap [] → ∀ ls, lv_has ls maxL (lv_args 0 As) → W p l e rm s m args below meth c s.heap [] 0 0 (vx_MQ below (Qc s.heap.size) (XC s.heap.size) args s mc ms (xAd Γ N s.heap.size)) (F0 m 0 ls [])) (sz : Nat) :
    vx_Met l y (Cond.code y cc maxL ret :: ws') rm (va_Pc As (xPreZ Γ w N M sz)) (Qc sz) (XC sz) mc ms (xAd Γ N sz) := by
  refine vx_ofW (cc := cc) (maxL := maxL) (ret := ret) hy rfl ?_
  intro p e s m args below meth c s₁ B hml hex hv
  obtain ⟨rfl, hpre, hz⟩ := hv
  have hsz := hpre.1
  subst hsz
  rw [lg_entry_eq]
  exact body p e s m _ below meth c ⟨⟨B.exec, B.bytes, hml, findClass_of_methodNamed B.named, atoms_spec B.pre⟩, B.returns, B.notSynchronized⟩ hex hz (xH_of hw hpre) _ (lv_entry As hlen)
