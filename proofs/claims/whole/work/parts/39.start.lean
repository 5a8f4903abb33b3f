theorem inUJ0 : ∀ w ∈ u_ws RJ0 TJ0 2, w ∈ xU := by
  intro w hw
  obtain ⟨i, hi⟩ := List.getElem?_of_mem hw
  have hl := (List.getElem?_eq_some_iff.mp hi).1
  have hl : i < 2 := hl
  match i, hl with
  | 0, _ => exact xq3 11 ⟨(show tables_1_3[11]? = some (u_lay RJ0 TJ0 0) by decide +kernel).trans hi, (by cases hi; decide +kernel)⟩
  | 1, _ => exact xq3 13 ⟨(show tables_1_3[13]? = some (u_lay RJ0 TJ0 1) by decide +kernel).trans hi, (by cases hi; decide +kernel)⟩
theorem inUJx00060 : ∀ w ∈ u_ws RJx00060 TJx00060 6, w ∈ xU := by
  intro w hw
  obtain ⟨i, hi⟩ := List.getElem?_of_mem hw
  have hl := (List.getElem?_eq_some_iff.mp hi).1
  have hl : i < 6 := hl
  match i, hl with
  | 0, _ => exact xq2 239 ⟨(show tables_1_2[239]? = some (u_lay RJx00060 TJx00060 0) by decide +kernel).trans hi, (by cases hi; decide +kernel)⟩
  | 1, _ => exact xq3 0 ⟨(show tables_1_3[0]? = some (u_lay RJx00060 TJx00060 1) by decide +kernel).trans hi, (by cases hi; decide +kernel)⟩
  | 2, _ => exact xq3 1 ⟨(show tables_1_3[1]? = some (u_lay RJx00060 TJx00060 2) by decide +kernel).trans hi, (by cases hi; decide +kernel)⟩
  | 3, _ => exact xq3 2 ⟨(show tables_1_3[2]? = some (u_lay RJx00060 TJx00060 3) by decide +kernel).trans hi, (by cases hi; decide +kernel)⟩
  | 4, _ => exact xq3 3 ⟨(show tables_1_3[3]? = some (u_lay RJx00060 TJx00060 4) by decide +kernel).trans hi, (by cases hi; decide +kernel)⟩
  | 5, _ => exact xq3 4 ⟨(show tables_1_3[4]? = some (u_lay RJx00060 TJx00060 5) by decide +kernel).trans hi, (by cases hi; decide +kernel)⟩
theorem zK_of {s : State} {args : Array Value} (hts : ∀ w ∈ lw_tbl, w.before args s = true) : ∃ Γ0 : xG, va_K Γ0.1 vwCl (xT Γ0) s := by
  obtain ⟨c0, i0, k0⟩ := u_known (C := RJ0) (T := TJ0) (N := 2) (n := 4) hts (fun w h => lw_sub w (inUJ0 w h)) (hts _ (lw_sub _ q1088))
  obtain ⟨c1, i1, k1⟩ := u_known (C := RJx00060) (T := TJx00060) (N := 6) (n := 6) hts (fun w h => lw_sub w (inUJx00060 w h)) (hts _ (lw_sub _ q1087))
  obtain ⟨c2, i2, k2⟩ := u_known (C := RX0) (T := TX0) (N := 3) (n := 3) hts (fun w h => lw_sub w (inU0 w h)) (hts _ (lw_sub _ q57))
  obtain ⟨c3, i3, k3⟩ := u_known (C := RX1) (T := TX1) (N := 6) (n := 6) hts (fun w h => lw_sub w (inU1 w h)) (hts _ (lw_sub _ q61))
  obtain ⟨c4, i4, k4⟩ := u_known (C := RX2) (T := TX2) (N := 10) (n := 10) hts (fun w h => lw_sub w (inU2 w h)) (hts _ (lw_sub _ q55))
  obtain ⟨c5, i5, k5⟩ := u_known (C := RX3) (T := TX3) (N := 9) (n := 9) hts (fun w h => lw_sub w (inU3 w h)) (hts _ (lw_sub _ q14))
  obtain ⟨c6, i6, k6⟩ := u_known (C := RX4) (T := TX4) (N := 3) (n := 3) hts (fun w h => lw_sub w (inU4 w h)) (hts _ (lw_sub _ q59))
  obtain ⟨c7, i7, k7⟩ := u_known (C := RX5) (T := TX5) (N := 5) (n := 5) hts (fun w h => lw_sub w (inU5 w h)) (hts _ (lw_sub _ q24))
  obtain ⟨c8, i8, k8⟩ := u_known (C := RX6) (T := TX6) (N := 3) (n := 3) hts (fun w h => lw_sub w (inU6 w h)) (hts _ (lw_sub _ q20))
  obtain ⟨c9, i9, k9⟩ := u_known (C := RX7) (T := TX7) (N := 2) (n := 2) hts (fun w h => lw_sub w (inU7 w h)) (hts _ (lw_sub _ q35))
  obtain ⟨c10, i10, k10⟩ := u_known (C := RX8) (T := TX8) (N := 4) (n := 4) hts (fun w h => lw_sub w (inU8 w h)) (hts _ (lw_sub _ q31))
  obtain ⟨c11, i11, k11⟩ := u_known (C := RX9) (T := TX9) (N := 10) (n := 10) hts (fun w h => lw_sub w (inU9 w h)) (hts _ (lw_sub _ q1))
  obtain ⟨c12, i12, k12⟩ := u_known (C := RX10) (T := TX10) (N := 20) (n := 20) hts (fun w h => lw_sub w (inU10 w h)) (hts _ (lw_sub _ q4))
  obtain ⟨a0, ka0, co0, f0, g0, h0⟩ := Cond.arrayClass_spec (hts _ (lw_sub _ q110))
  obtain ⟨a1, ka1, co1, f1, g1, h1⟩ := Cond.arrayClass_spec (hts _ (lw_sub _ q66))
  obtain ⟨a2, ka2, co2, f2, g2, h2⟩ := Cond.arrayClass_spec (hts _ (lw_sub _ q6))
  obtain ⟨a8, ka8, co8, f8, g8, h8⟩ := Cond.arrayClass_spec (hts _ (lw_sub _ q7))
  obtain ⟨co3, a3, ka3, e3, _, g3, h3, f3⟩ := Cond.arrayOver_spec (hts _ tq1)
  obtain ⟨co4, a4, ka4, e4, _, g4, h4, f4⟩ := Cond.arrayOver_spec (hts _ tq3)
  obtain ⟨co5, a5, ka5, e5, _, g5, h5, f5⟩ := Cond.arrayOver_spec (hts _ tq0)
  obtain ⟨co6, a6, ka6, e6, _, g6, h6, f6⟩ := Cond.arrayOver_spec (hts _ tq13)
  obtain ⟨co7, a7, ka7, e7, _, g7, h7, f7⟩ := Cond.arrayOver_spec (hts _ tq2)
  refine ⟨((fun k => match k with | 0 => c0 | 1 => c1 | 2 => c2 | 3 => c3 | 4 => c4 | 5 => c5 | 6 => c6 | 7 => c7 | 8 => c8 | 9 => c9 | 10 => c10 | 11 => c11 | _ => c12, fun k => match k with | 0 => i0 | 1 => i1 | 2 => i2 | 3 => i3 | 4 => i4 | 5 => i5 | 6 => i6 | 7 => i7 | 8 => i8 | 9 => i9 | 10 => i10 | 11 => i11 | _ => i12), fun _ => 0, fun k => match k with | 0 => a0 | 1 => a1 | 2 => a2 | 3 => a3 | 4 => a4 | 5 => a5 | 6 => a6 | 7 => a7 | _ => a8), ?_, ?_⟩
  · intro k q hq
    match k, hq with
    | 0, hq => cases hq; exact k0
    | 1, hq => cases hq; exact k1
    | 2, hq => cases hq; exact k2
    | 3, hq => cases hq; exact k3
    | 4, hq => cases hq; exact k4
    | 5, hq => cases hq; exact k5
    | 6, hq => cases hq; exact k6
    | 7, hq => cases hq; exact k7
    | 8, hq => cases hq; exact k8
    | 9, hq => cases hq; exact k9
    | 10, hq => cases hq; exact k10
    | 11, hq => cases hq; exact k11
    | 12, hq => cases hq; exact k12
    | k + 13, hq => simp [vwCl] at hq
  · intro k q hq
    match k, hq with
    | 0, hq => cases hq; exact ⟨fun n z => ⟨fun k h => (by cases h), ka0, g0, co0, h0⟩, f0⟩
    | 1, hq => cases hq; exact ⟨fun n z => ⟨fun k h => (by cases h), ka1, g1, co1, h1⟩, f1⟩
    | 2, hq => cases hq; exact ⟨fun n z => ⟨fun k h => (by cases h), ka2, g2, co2, h2⟩, f2⟩
    | 3, hq => cases hq; exact ⟨fun n z => ⟨fun k h => (by cases h), ka3, g3, co3, h3⟩, ka3, co3, g3, h3, e3, f3⟩
    | 4, hq => cases hq; exact ⟨fun n z => ⟨fun k h => (by cases h), ka4, g4, co4, h4⟩, ka4, co4, g4, h4, e4, f4⟩
    | 5, hq => cases hq; exact ⟨fun n z => ⟨fun k h => (by cases h), ka5, g5, co5, h5⟩, ka5, co5, g5, h5, e5, f5⟩
    | 6, hq => cases hq; exact ⟨fun n z => ⟨fun k h => (by cases h), ka6, g6, co6, h6⟩, ka6, co6, g6, h6, e6, f6⟩
    | 7, hq => cases hq; exact ⟨fun n z => ⟨fun k h => (by cases h), ka7, g7, co7, h7⟩, ka7, co7, g7, h7, e7, f7⟩
    | 8, hq => cases hq; exact ⟨fun n z => ⟨fun k h => (by cases h), ka8, g8, co8, h8⟩, f8⟩
    | k + 9, hq => simp [xT] at hq
theorem yN_of {s : State} {args : Array Value} (hts : ∀ w ∈ lw_tbl, w.before args s = true) : yN s := by
  have k1 : ∀ C ∈ yCs, Cond.arrayOver (.object C) ∈ lw_tbl := by
    intro C hC
    simp only [yCs, List.mem_cons, List.not_mem_nil, or_false] at hC
    rcases hC with rfl | rfl | rfl | rfl | rfl
    · exact tq0
    · exact tq1
    · exact tq2
    · exact tq3
    · exact tq13
  have k2 : ∀ x ∈ yLs, Cond.methodLinkNest x.1 x.2.1 ⟨x.2.2, "<init>", "()V"⟩ "TintDesk" ∈ lw_tbl := by
    intro C hC
    simp only [yLs, List.mem_cons, List.not_mem_nil, or_false] at hC
    rcases hC with rfl | rfl | rfl | rfl | rfl | rfl | rfl
    · exact tq4
    · exact tq6
    · exact tq8
    · exact tq10
    · exact tq15
    · exact tq17
    · exact tq19
  exact ⟨fun C hC => va_AO.of (hts _ (k1 C hC)), fun x hx => va_Nw.of rfl (hts _ (k2 x hx))⟩
theorem zEx {s : State} {args : Array Value} {t : Term} {C : String} (h : (Cond.exactly t C).before args s = true) : ∃ a, t.eval args s none [] s = some (.ref a) := by
  obtain ⟨a, _, _, _, h1, _⟩ := Cond.exactly_spec h
  exact ⟨a, h1⟩
theorem zt1 : ∀ E ∈ xEs, Cond.castable E E ∈ lw_tbl := by decide +kernel
theorem zt2 : ∀ y ∈ xDs, Cond.declares y ∈ lw_tbl := by decide +kernel
theorem zt3 : ∀ q ∈ xSs, Cond.stringRef RX9 q.1 q.2 ∈ lw_tbl := by decide +kernel
theorem zt4 : ∀ q ∈ xSs, Cond.exactly (Term.string RX9 q.1) "java/lang/String" ∈ flatC (given_1.and narrow_1) := by decide +kernel
theorem zt5 : ∀ E ∈ xEs, ∀ E' ∈ xEs, E ≠ E' → Cond.not (.castable E E') ∈ flatC (given_1.and narrow_1) := by decide +kernel
theorem zt6 : Cond.isRef (.static Bundle.tN "UNASSIGNED_STACK" Bundle.steD) ∈ flatC (given_1.and narrow_1) ∧ Cond.isRef (.static Bundle.tN "SUPPRESSED_SENTINEL" Bundle.listD) ∈ flatC (given_1.and narrow_1) := by decide +kernel
theorem zt7 : Cond.laysStatic Bundle.tN "UNASSIGNED_STACK" Bundle.steD ∈ lw_tbl ∧ Cond.laysStatic Bundle.tN "SUPPRESSED_SENTINEL" Bundle.listD ∈ lw_tbl ∧ Cond.initialized Bundle.tN ∈ lw_tbl := by decide +kernel
theorem zZ_of {s : State} {args : Array Value} (hts : ∀ w ∈ lw_tbl, w.before args s = true) (hgv : (Jvm.Cond.and given_1 narrow_1).before args s = true) : zZ s := by
  have hs := flat_of_before _ hgv
  refine ⟨vx_Zqof (hts _ zt7.1) (hts _ zt7.2.2) (hs _ zt6.1) (fun a h1 h2 => by omega), vx_Zqof (hts _ zt7.2.1) (hts _ zt7.2.2) (hs _ zt6.2) (fun a h1 h2 => by omega), fun E hE => va_Nw.of rfl (hts _ (zt1 E hE)), fun y hy => va_Nw.of rfl (hts _ (zt2 y hy)), fun q hq => ?_, fun E hE E' hE' hne => va_Nc.of (hs _ (zt5 E hE E' hE' hne))⟩
  obtain ⟨a, h1⟩ := zEx (hs _ (zt4 q hq))
  exact ⟨a, vk_R.of (hts _ (zt3 q hq)) h1⟩
theorem zZ_same {u U : State} (hv : u.vm = U.vm) (hh : u.heap = U.heap) (h : zZ u) : zZ U := by
  obtain ⟨h1, h2, h3, h5, h4, h6⟩ := h
  have ha : u.vm.Alike U.vm := by rw [hv]; exact Vm.Alike.refl U.vm
  refine ⟨?_, ?_, fun E hE => va_Nw.same rfl hv (h3 E hE), fun y hy => va_Nw.same rfl hv (h5 y hy), fun q hq => ?_, xNc9_moved ha h6⟩
  · rw [hh] at h1; exact vx_Zq.moved ha h1
  · rw [hh] at h2; exact vx_Zq.moved ha h2
  · obtain ⟨a, h6⟩ := h4 q hq
    exact ⟨a, vk_R.same hv.symm h6⟩
