/-! append -/
theorem nar_nat (x : Int32) : ∃ ch, ch < 65536 ∧ vp_nar .char x = nI ch := by
  refine ⟨x.toUInt32.toNat % 65536, Nat.mod_lt _ (by decide), ?_⟩
  refine Int32.toBitVec_inj.mp ?_
  refine BitVec.eq_of_toNat_eq ?_
  show ((x.toUInt32 % 65536).toInt32).toBitVec.toNat = (nI (x.toUInt32.toNat % 65536)).toBitVec.toNat
  have h1 : ((x.toUInt32 % 65536).toInt32).toBitVec.toNat = x.toUInt32.toNat % 65536 := by
    show (x.toUInt32 % 65536).toNat = _
    rw [UInt32.toNat_mod]
    rfl
  rw [h1]
  show _ = (BitVec.ofNat 32 (x.toUInt32.toNat % 65536)).toNat
  rw [BitVec.toNat_ofNat]
  have := Nat.mod_lt x.toUInt32.toNat (show 0 < 65536 by decide)
  omega
theorem o_10 {N : Nat} {v1 v2 v3 v4 v5 v6 : Int32} {M R : xM} (h : Rel M R) : ∃ q, zOp_10 N v1 v2 v3 v4 v5 v6 M R = some q ∧ Rel q.1 q.2 := by
  have h' := h
  obtain ⟨⟨G, B, hd⟩, hh, hk, ⟨t, t1, t2, t3, t4⟩, hl⟩ := h
  unfold zOp_10
  generalize ((v1).toUInt32 % 65536).toInt32 = w
  by_cases ht : t = 60
  · subst ht
    refine ⟨(M, xS R 0 (upd (R.1 0) 0 1)), ?_, h'.thrown⟩
    unfold F_L_append F_X9_append F_X10_append
    rw [if_neg (show ¬ M.1 1473 1 < (60 : Int32) from by rw [t2]; decide), if_pos (show R.1 0 10 = (60 : Int32) from t3)]
    show (if (xS R 0 (upd (R.1 0) 0 1)).1 0 0 = 1 then some (M, xS R 0 (upd (R.1 0) 0 1)) else none) = _
    rw [if_pos xS_in]
  · have a1 : M.1 1473 1 < (60 : Int32) := by rw [t2]; exact nI_lt (a := t) (b := 60) (by omega) (by decide)
    have a2 : ¬ (60 : Int32) ≤ M.1 1473 1 := by rw [t2]; exact nI_ge (a := t) (b := 60) (by omega) (by decide)
    have a3 : ¬ R.1 0 10 = (60 : Int32) := by rw [t3]; exact fun e => ht ((nI_eq (a := t) (b := 60) (by omega) (by decide)).mp e)
    obtain ⟨M1, hM1⟩ : ∃ M1, M1 = xS M 1474 (upd (M.1 1474) t (vp_nar .char w)) := ⟨_, rfl⟩
    obtain ⟨M2, hM2⟩ : ∃ M2, M2 = xS M1 1473 (upd (M1.1 1473) 1 (nI (t + 1))) := ⟨_, rfl⟩
    obtain ⟨R1, hR1⟩ : ∃ R1, R1 = xS R 0 (upd (R.1 0) 0 0) := ⟨_, rfl⟩
    obtain ⟨R2, hR2⟩ : ∃ R2, R2 = xS R1 5 (upd (R1.1 5) t (vp_nar .char w)) := ⟨_, rfl⟩
    obtain ⟨R3, hR3⟩ : ∃ R3, R3 = xS R2 0 (upd (R2.1 0) 10 (nI (t + 1))) := ⟨_, rfl⟩
    have y1 : R1.1 0 10 = nI t := by rw [hR1, xS_f (by omega)]; exact t3
    have y2 : R2.1 0 10 = nI t := by rw [hR2, xS_ne (by omega)]; exact y1
    have x1 : M1.1 1473 1 = nI t := by rw [hM1, xS_ne (by omega)]; exact t2
    have z0 : R3.1 0 0 = 0 := by rw [hR3, xS_f (by omega), hR2, xS_ne (by omega), hR1]; exact xS_in
    refine ⟨(M2, R3), ?_, ?_⟩
    · unfold F_L_append F_X9_append F_X10_append F_X5_put
      rw [if_pos a1, if_neg a2, if_neg a3, t2, ck_nI (by omega) (by decide), nI_clamp (by omega), xl_v, xl_v, xl_v, ← hM1, x1, nI_1, ← hM2, ← hR1, y1, ck_nI (by omega) (by decide), nI_clamp (by omega), xl_v, xl_v, ← hR2, y2, nI_1, ← hR3]
      show (if R3.1 0 0 = 0 then some (M2, R3) else none) = _
      rw [if_pos z0]
    · have m1 : ∀ k, k ≠ 1473 → k ≠ 1474 → M2.1 k = M.1 k := fun k q1 q2 => by rw [hM2, xS_ne q1, hM1, xS_ne q2]
      have m2 : M2.2 = M.2 := by rw [hM2, hM1]; rfl
      have r1 : ∀ k, k ≠ 0 → k ≠ 5 → R3.1 k = R.1 k := fun k q1 q2 => by rw [hR3, xS_ne q1, hR2, xS_ne q2, hR1, xS_ne q1]
      have r0 : ∀ s, s ≠ 0 → s ≠ 10 → R3.1 0 s = R.1 0 s := fun s q1 q2 => by rw [hR3, xS_f q2, hR2, xS_ne (by omega), hR1, xS_f q1]
      have r5 : R3.1 5 = upd (R.1 5) t (vp_nar .char w) := by rw [hR3, xS_ne (by omega), hR2, xS_at, hR1, xS_ne (by omega)]
      have m5 : M2.1 1474 = upd (M.1 1474) t (vp_nar .char w) := by rw [hM2, xS_ne (by omega), hM1, xS_at]
      refine ⟨⟨G, B, hd.cong (fun k hk => m1 _ (by omega) (by omega)) (fun k hk => by rw [m2]) (fun i hi => by rw [r1 1 (by omega) (by omega)])⟩, hh.cong (fun k k1 k2 => ⟨m1 k (by omega) (by omega), by rw [m2]⟩) (m1 _ (by omega) (by omega)) (r1 2 (by omega) (by omega)) (r0 3 (by omega) (by omega)), ?_, ⟨t + 1, by omega, by rw [hM2]; exact xS_in, by rw [hR3]; exact xS_in, fun i hi => ?_⟩, hl.cong (by rw [m1 1470 (by omega) (by omega)]; exact ⟨rfl, rfl, rfl⟩) ⟨r0 7 (by omega) (by omega), r0 8 (by omega) (by omega), r0 11 (by omega) (by omega)⟩⟩
      · rcases hk with ⟨k1, k2⟩ | ⟨k1, k2, G9, B9, hd9⟩
        · exact Or.inl ⟨by rw [m1 1470 (by omega) (by omega)]; exact k1, (r0 5 (by omega) (by omega)).trans k2⟩
        · exact Or.inr ⟨by rw [m1 1470 (by omega) (by omega)]; exact k1, (r0 5 (by omega) (by omega)).trans k2, G9, B9, hd9.cong (fun k hk => m1 _ (by omega) (by omega)) (fun k hk => by rw [m2]) (fun i hi => by rw [r1 3 (by omega) (by omega)])⟩
      · rw [m5, r5]
        by_cases hi2 : i = t
        · subst hi2
          rw [pk_us, pk_us]
          obtain ⟨ch, c1, c2⟩ := nar_nat w
          exact ⟨rfl, ch, c1, c2⟩
        · rw [pk_un hi2, pk_un hi2]
          exact t4 i (by omega)
