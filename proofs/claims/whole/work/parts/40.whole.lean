def xR0 : xM := (fun k j => if k = 0 ∧ j = 11 then -1 else 0, fun _ _ => 0)
/-- what is left: over the mere numbers, the class and the reference go hand in hand -/
def zPure (N : Nat) (Rel : xM → xM → Prop) : Prop := Rel xM0 xR0 ∧ ∀ M R, Rel M R → ∀ v0 v1 v2 v3 v4 v5 v6 : Int32, ∃ q, zOp N v0 v1 v2 v3 v4 v5 v6 M R = some q ∧ Rel q.1 q.2
def pX (i : Nat) : Nat := if i < 1481 then sX i else i + 10
theorem pX_inj {i j : Nat} (hi : i < 1483) (hj : j < 1483) (h : pX i = pX j) : i = j := by
  unfold pX at h
  by_cases h1 : i < 1481
  · by_cases h2 : j < 1481
    · rw [if_pos h1, if_pos h2] at h
      exact sX_inj h1 h2 h
    · rw [if_pos h1, if_neg h2] at h
      have := sX_lt h1
      omega
  · by_cases h2 : j < 1481
    · rw [if_neg h1, if_pos h2] at h
      have := sX_lt h2
      omega
    · rw [if_neg h1, if_neg h2] at h
      omega
theorem pX_R {i j : Nat} (hi : i < 1483) (hj : j < 10) (h : pX i = 1481 + j) : False := by
  unfold pX at h
  by_cases h1 : i < 1481
  · rw [if_pos h1] at h
    have := sX_lt h1
    omega
  · rw [if_neg h1] at h
    omega
theorem zAll {X Y : va_W} {u v : Nat × va_E} (hx : X.length = 1481) (hy : Y.length = 10) : (∀ k, k < 1481 → (((X ++ Y) ++ [u]) ++ [v])[k]? = X[k]?) ∧ (∀ k, k < 10 → (((X ++ Y) ++ [u]) ++ [v])[1481 + k]? = Y[k]?) ∧ (((X ++ Y) ++ [u]) ++ [v])[1491]? = some u ∧ (((X ++ Y) ++ [u]) ++ [v])[1492]? = some v := by
  have l1 : (X ++ Y).length = 1491 := by rw [List.length_append]; omega
  have l2 : ((X ++ Y) ++ [u]).length = 1492 := by rw [List.length_append, l1]; rfl
  refine ⟨fun k hk => ?_, fun k hk => ?_, ?_, ?_⟩
  · rw [List.getElem?_append_left (by omega), List.getElem?_append_left (by omega), List.getElem?_append_left (by omega)]
  · rw [List.getElem?_append_left (by omega), List.getElem?_append_left (by omega), List.getElem?_append_right (by omega), hx, Nat.add_sub_cancel_left]
  · rw [List.getElem?_append_left (by omega), List.getElem?_append_right (by omega), l1]
    rfl
  · rw [List.getElem?_append_right (by omega), l2]
    rfl
set_option maxRecDepth 100000 in
/-- the two worlds, out of what the law made -/
theorem zBegin {Γ : xG} {ad a : Nat → Nat} {o1 o2 : Nat} {s : State} {H : Heap} {locs : List Loc} (h : yH Γ (fun q => s.heap.size ≤ q) s ((((wS ad 1481 (cTint Γ ad)) ++ wS a 10 (cModel Γ a)) ++ [(o1, (.inl (Γ.2.2 2, 1, .inr (.inl (fun _ => 0))) : va_E))]) ++ [(o2, (.inl (Γ.2.2 8, 1, .inr (.inr (.inr (.inl (fun _ => ((0 : Int64)).toUInt64))))) : va_E))]) H locs) :
    zD (gX Γ ad o1 o2) a s.heap.size ∧ zH (gX Γ ad o1 o2) a s xM0 xR0 H locs := by
  obtain ⟨hK, hP, hD, hS⟩ := h
  obtain ⟨g1, g2, g3, g4⟩ := zAll (X := wS ad 1481 (cTint Γ ad)) (Y := wS a 10 (cModel Γ a)) (u := (o1, (.inl (Γ.2.2 2, 1, .inr (.inl (fun _ => 0))) : va_E))) (v := (o2, (.inl (Γ.2.2 8, 1, .inr (.inr (.inr (.inl (fun _ => ((0 : Int64)).toUInt64))))) : va_E))) wS_len wS_len
  have pl : ∀ i, i < 1483 → ∃ e, ((((wS ad 1481 (cTint Γ ad)) ++ wS a 10 (cModel Γ a)) ++ [(o1, (.inl (Γ.2.2 2, 1, .inr (.inl (fun _ => 0))) : va_E))]) ++ [(o2, (.inl (Γ.2.2 8, 1, .inr (.inr (.inr (.inl (fun _ => ((0 : Int64)).toUInt64))))) : va_E))])[pX i]? = some (adX ad o1 o2 i, e) := by
    intro i hi
    unfold pX
    by_cases h1 : i < 1481
    · rw [if_pos h1, g1 _ (sX_lt h1), wS_get (sX_lt h1), adX_lo h1]
      exact ⟨_, rfl⟩
    · rw [if_neg h1]
      by_cases h2 : i = 1481
      · subst h2
        exact ⟨_, g3⟩
      · have h3 : i = 1482 := by omega
        subst h3
        exact ⟨_, g4⟩
  have pr : ∀ j, j < 10 → ((((wS ad 1481 (cTint Γ ad)) ++ wS a 10 (cModel Γ a)) ++ [(o1, (.inl (Γ.2.2 2, 1, .inr (.inl (fun _ => 0))) : va_E))]) ++ [(o2, (.inl (Γ.2.2 8, 1, .inr (.inr (.inr (.inl (fun _ => ((0 : Int64)).toUInt64))))) : va_E))])[1481 + j]? = some (a j, cModel Γ a j) := fun j hj => by rw [g2 j hj, wS_get hj]
  refine ⟨⟨fun i j hi hj hij => ?_, fun i j hi hj hij => ?_, fun i j hi hj hij => ?_, fun i hi => ?_, fun j hj => ?_⟩, hK, fun k q hk => ?_, fun k q hk => ?_, hS⟩
  · obtain ⟨e1, p1⟩ := pl i hi
    obtain ⟨e2, p2⟩ := pl j hj
    exact pX_inj hi hj (hD.1 _ _ _ _ p1 p2 hij)
  · have := hD.1 _ _ _ _ (pr i hi) (pr j hj) hij
    omega
  · obtain ⟨e1, p1⟩ := pl i hi
    exact pX_R hi hj (hD.1 _ _ _ _ p1 (pr j hj) hij)
  · obtain ⟨e1, p1⟩ := pl i hi
    exact hD.2 _ _ p1
  · exact hD.2 _ _ (pr j hj)
  · have hl := (List.getElem?_eq_some_iff.mp hk).1
    have hl : k < 1483 := by simpa [wG] using hl
    rw [wG_get hl] at hk
    cases hk
    by_cases h1 : k < 1481
    · refine yTintTo (fun k q hq => ?_) h1
      have hl := (List.getElem?_eq_some_iff.mp hq).1
      rw [wS_len] at hl
      exact hP k q ((g1 k hl).trans hq)
    · by_cases h2 : k = 1481
      · subst h2
        exact hP _ _ g3
      · have h3 : k = 1482 := by omega
        subst h3
        exact hP _ _ g4
  · have hl := (List.getElem?_eq_some_iff.mp hk).1
    have hl : k < 10 := by simpa [wG] using hl
    rw [wG_get hl] at hk
    cases hk
    have hk : k = 0 ∨ k = 1 ∨ k = 2 ∨ k = 3 ∨ k = 4 ∨ k = 5 ∨ k = 6 ∨ k = 7 ∨ k = 8 ∨ k = 9 := by omega
    rcases hk with rfl | rfl | rfl | rfl | rfl | rfl | rfl | rfl | rfl | rfl
    · exact hP _ _ (pr 0 (by omega))
    · exact hP _ _ (pr 1 (by omega))
    · exact hP _ _ (pr 2 (by omega))
    · exact hP _ _ (pr 3 (by omega))
    · exact hP _ _ (pr 4 (by omega))
    · exact hP _ _ (pr 5 (by omega))
    · exact hP _ _ (pr 6 (by omega))
    · exact hP _ _ (pr 7 (by omega))
    · exact hP _ _ (pr 8 (by omega))
    · exact hP _ _ (pr 9 (by omega))
set_option maxHeartbeats 4000000 in
set_option maxRecDepth 100000 in
theorem whole_start_open {p : Program} {e : Env} {s : State} {m : MethodId} {below : List Frame} {meth : Method} {c : Code} (l : Launch) (hflags : l.flags = flags0) {b L : Nat} {xs : Nat → Int32} (hL : L ≤ 3584) (hpure : ∃ N Rel, zPure N Rel) (C0 : lw_At p s m meth c b L xs) : W p l e room_1 s m #[Value.ref b] below meth c s.heap [] 0 0 (lw_Z below #[Value.ref b] s) (entryFrame m ([Value.ref b] : List Value).toArray 9) := by
  obtain ⟨hx, hb, hr, hml, hown, hts0, hX, hbl, hlocks, hgv⟩ := id C0
  have hlt : l.stackTraces = false := by
    unfold Launch.stackTraces
    rw [hflags]
    decide +kernel
  have hd0 := Drawn.sameBut.refl s.drawn lw_cs
  refine W.base ?_
  have hts : ∀ w ∈ lw_tbl, w.before #[Value.ref b] (s.setDrawn s.drawn) = true := dr_words hts0 _
  have hz : zZ (s.setDrawn s.drawn) := zZ_same (u := s) rfl rfl (zZ_of hts0 hgv)
  have hN : yN (s.setDrawn s.drawn) := yN_of hts
  obtain ⟨Γ, hK⟩ := zK_of hts
  have hA : ∀ q, (s.setDrawn s.drawn).heap.size ≤ q → (fun q => (s.setDrawn s.drawn).heap.size ≤ q) q := fun _ h => h
  have h : yH Γ (fun q => (s.setDrawn s.drawn).heap.size ≤ q) (s.setDrawn s.drawn) [] s.heap [] := ⟨hK, fun k q h => by simp at h, ⟨fun i j p q h => by simp at h, fun k q h => by simp at h⟩, va_S.rf⟩
  have hl := lv_entry ([.ref b]) (n := 9) (Nat.le_of_ble_eq_true rfl)
  rw [lg_entry_eq]
  generalize (lg_sl ([.ref b]) ++ List.replicate (9 - (lg_sl ([.ref b])).length) Slot.unset).toArray = ls at hl ⊢
  have hl : lv_has ls 9 [(0, .ref b)] := hl
  refine y_new (ci := 11) (fs := [.null, .null, .int 0, .null, .null, .int 0, .int 0, .int 0, .null, .null]) (C := RX9) (T := TX9) (N := 10) hx hb hts (fun w h => lw_sub w (inU9 w h)) tyX9 tyX9_ok hown (hts _ (lw_sub _ q0)) (hts _ (lw_sub _ q1)) (hts _ (lw_sub _ q2)) h hA rfl (by decide) (Nat.le_of_ble_eq_true rfl) (Nat.le_of_ble_eq_true rfl) dL_law_0 (fun q0 H h => ?_)
  refine lv_dup hx hb dL_law_3 rfl ?_
  refine y_call (Ws := []) hN h hA (fun hp9 => va_runI (As := []) (rest := [.ref q0]) ⟨hx, hb, hml, hown, hts⟩ (m_X9_init l (h0 := q0) H.size) (by exact y_ci hts lw_sub q10 rfl rfl q2 q8 q9 rfl hdX9_init ⟨Nat.le_of_ble_eq_true rfl, Nat.le_of_ble_eq_true rfl⟩) hp9 rfl rfl hl.1 rfl (lv_room (Nat.le_of_ble_eq_true rfl)) dL_law_4 ⟨Nat.le_of_ble_eq_true rfl, Nat.le_of_ble_eq_true rfl⟩) (fun ad H locs h01 h9 => ?_)
  subst h01
  replace h := h9
  clear h9
  refine lv_astore_n (lv' := [(1, .ref (ad 0)), (0, .ref b)]) hx hb dL_law_7 rfl hl (by decide) rfl (fun ls hl => ?_)
  have h : yH Γ (fun q => (s.setDrawn s.drawn).heap.size ≤ q) (s.setDrawn s.drawn) (wS ad 1481 (cTint Γ ad)) H _ := h
  refine y_new (ci := 12) (fs := [.int 0, .null, .null, .int 0, .null, .int 0, .null, .int 0, .int 0, .null, .int 0, .int 0, .int 0, .int 0, .null, .int 0, .null, .null, .null, .int 0]) (C := RX10) (T := TX10) (N := 20) hx hb hts (fun w h => lw_sub w (inU10 w h)) tyX10 tyX10_ok hown (hts _ (lw_sub _ q3)) (hts _ (lw_sub _ q4)) (hts _ (lw_sub _ q5)) h hA rfl (by decide) (Nat.le_of_ble_eq_true rfl) (Nat.le_of_ble_eq_true rfl) dL_law_8 (fun q8 H h => ?_)
  refine lv_dup hx hb dL_law_11 rfl ?_
  refine y_call hN h hA (fun hp9 => va_runI (As := []) (rest := [.ref q8]) ⟨hx, hb, hml, hown, hts⟩ (m_X10_init l (h0 := q8) H.size) (by exact y_ci hts lw_sub q130 rfl rfl q5 q128 q129 rfl hdX10_init ⟨Nat.le_of_ble_eq_true rfl, Nat.le_of_ble_eq_true rfl⟩) hp9 rfl rfl hl.1 rfl (lv_room (Nat.le_of_ble_eq_true rfl)) dL_law_12 ⟨Nat.le_of_ble_eq_true rfl, Nat.le_of_ble_eq_true rfl⟩) (fun a H locs h01 h9 => ?_)
  subst h01
  replace h := h9
  clear h9
  refine lv_astore_n (lv' := [(2, .ref (a 0)), (1, .ref (ad 0)), (0, .ref b)]) hx hb dL_law_15 rfl hl (by decide) rfl (fun ls hl => ?_)
  refine lv_iconst (v := 1) hx hb dL_law_16 (by decide) ?_
  refine y_newa (a0 := (1, .inr (.inl (fun _ => 0)))) (ty := .long) hx hb 2 rfl (hts _ (lw_sub _ q6)) h hA rfl (fun _ => rfl) (by decide) (by decide) (by decide) (Nat.le_of_ble_eq_true rfl) (Nat.le_of_ble_eq_true rfl) dL_law_17 (fun o1 H h => ?_)
  refine lv_astore_n (lv' := [(3, .ref o1), (2, .ref (a 0)), (1, .ref (ad 0)), (0, .ref b)]) hx hb dL_law_19 rfl hl (by decide) rfl (fun ls hl => ?_)
  refine lv_iconst (v := 1) hx hb dL_law_20 (by decide) ?_
  refine y_newa (a0 := (1, .inr (.inr (.inr (.inl (fun _ => ((0 : Int64)).toUInt64)))))) (ty := .double) hx hb 8 rfl (hts _ (lw_sub _ q7)) h hA rfl (fun _ => rfl) (by decide) (by decide) (by decide) (Nat.le_of_ble_eq_true rfl) (Nat.le_of_ble_eq_true rfl) dL_law_21 (fun o2 H h => ?_)
  refine lv_astore (lv' := [(4, .ref o2), (3, .ref o1), (2, .ref (a 0)), (1, .ref (ad 0)), (0, .ref b)]) hx hb dL_law_23 hl (by decide) rfl (fun ls hl => ?_)
  refine lv_iconst (v := 0) hx hb dL_law_25 (by decide) ?_
  refine lv_istore (lv' := [(5, .int 0), (4, .ref o2), (3, .ref o1), (2, .ref (a 0)), (1, .ref (ad 0)), (0, .ref b)]) hx hb dL_law_26 hl (by decide) rfl (fun ls hl => ?_)
  obtain ⟨hd, hzh⟩ := zBegin h
  obtain ⟨N, Rel, hR0, hrel⟩ := hpure
  exact w_loop l (Γ := gX Γ ad o1 o2) (a := a) (N := N) Rel hrel hlt hd0 ⟨hx, hb, hml, hown, hts⟩ hr hlocks hd hz hX hbl hL 512 0 xM0 xR0 _ _ H _ ls (by omega) (by omega) (by decide) (by decide) hzh hR0 hl
