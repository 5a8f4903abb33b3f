/-! append -/
theorem nar_nat (x : Int32) : ∃ ch, ch < 65536 ∧ vp_nar .char x = nI ch := by
  refine ⟨x.toUInt32.toNat % 65536, Nat.mod_lt _ (by decide), ?_⟩
  refine Int32.toBitVec_inj.mp ?_
  refine BitVec.eq_of_toNat_eq ?_
  show ((x.toUInt32 % 65536).toInt32).toBitVec.toNat = (nI (x.toUInt32.toNat % 65536)).toBitVec.toNat
  have h1 : ((x.toUInt32 % 65536).toInt32).toBitVec.toNat = x.toUInt32.toNat % 65536 := by
    show (x.toUInt32 % 65536).toNat = _
    rw [UInt32.toNat_mod]
    rfl
  rw [h1]
  show _ = (BitVec.ofNat 32 (x.toUInt32.toNat % 65536)).toNat
  rw [BitVec.toNat_ofNat]
  have := Nat.mod_lt x.toUInt32.toNat (show 0 < 65536 by decide)
  omega
