/-! the pure part, whole: every call, from every pair of states that stand to each other -/
theorem pure_ok {N : Nat} (hN : 12000 ≤ N) : zPure N Rel := by
  refine ⟨Rel_0, fun M R h v0 v1 v2 v3 v4 v5 v6 => ?_⟩
  unfold zOp
  by_cases c0 : v0 &&& 63 = 0
  · rw [if_pos c0]
    exact o_0 hN h
  rw [if_neg c0]
  by_cases c1 : v0 &&& 63 = 1
  · rw [if_pos c1]
    exact o_1 hN h
  rw [if_neg c1]
  by_cases c2 : v0 &&& 63 = 2
  · rw [if_pos c2]
    exact o_2 hN h
  rw [if_neg c2]
  by_cases c3 : v0 &&& 63 = 3
  · rw [if_pos c3]
    exact o_3 hN h
  rw [if_neg c3]
  by_cases c4 : v0 &&& 63 = 4
  · rw [if_pos c4]
    exact o_4 hN h
  rw [if_neg c4]
  by_cases c5 : v0 &&& 63 = 5
  · rw [if_pos c5]
    exact o_5 h
  rw [if_neg c5]
  by_cases c6 : v0 &&& 63 = 6
  · rw [if_pos c6]
    exact o_6 hN h
  rw [if_neg c6]
  by_cases c7 : v0 &&& 63 = 7
  · rw [if_pos c7]
    exact o_7 hN h
  rw [if_neg c7]
  by_cases c8 : v0 &&& 63 = 8
  · rw [if_pos c8]
    exact o_8 hN h
  rw [if_neg c8]
  by_cases c9 : v0 &&& 63 = 9
  · rw [if_pos c9]
    exact o_9 hN h
  rw [if_neg c9]
  by_cases c10 : v0 &&& 63 = 10
  · rw [if_pos c10]
    exact o_10 h
  rw [if_neg c10]
  by_cases c11 : v0 &&& 63 = 11
  · rw [if_pos c11]
    exact o_11 hN h
  rw [if_neg c11]
  by_cases c12 : v0 &&& 63 = 12
  · rw [if_pos c12]
    exact o_12 h
  rw [if_neg c12]
  by_cases c13 : v0 &&& 63 = 13
  · rw [if_pos c13]
    exact o_13 hN h
  rw [if_neg c13]
  by_cases c14 : v0 &&& 63 = 14
  · rw [if_pos c14]
    exact o_14 h
  rw [if_neg c14]
  by_cases c15 : v0 &&& 63 = 15
  · rw [if_pos c15]
    exact o_15 h
  rw [if_neg c15]
  by_cases c16 : v0 &&& 63 = 16
  · rw [if_pos c16]
    exact o_16 hN h
  rw [if_neg c16]
  by_cases c17 : v0 &&& 63 = 17
  · rw [if_pos c17]
    exact o_17 hN h
  rw [if_neg c17]
  by_cases c18 : v0 &&& 63 = 18
  · rw [if_pos c18]
    exact o_18 hN h
  rw [if_neg c18]
  by_cases c19 : v0 &&& 63 = 19
  · rw [if_pos c19]
    exact o_19 h
  rw [if_neg c19]
  by_cases c20 : v0 &&& 63 = 20
  · rw [if_pos c20]
    exact o_20 h
  rw [if_neg c20]
  by_cases c21 : v0 &&& 63 = 21
  · rw [if_pos c21]
    exact o_21 h
  rw [if_neg c21]
  by_cases c22 : v0 &&& 63 = 22
  · rw [if_pos c22]
    exact o_22 hN h
  rw [if_neg c22]
  by_cases c23 : v0 &&& 63 = 23
  · rw [if_pos c23]
    exact o_23 hN h
  rw [if_neg c23]
  by_cases c24 : v0 &&& 63 = 24
  · rw [if_pos c24]
    exact o_24 hN h
  rw [if_neg c24]
  by_cases c25 : v0 &&& 63 = 25
  · rw [if_pos c25]
    exact o_25 hN h
  rw [if_neg c25]
  by_cases c26 : v0 &&& 63 = 26
  · rw [if_pos c26]
    exact o_26 h
  rw [if_neg c26]
  by_cases c27 : v0 &&& 63 = 27
  · rw [if_pos c27]
    exact o_27 hN h
  rw [if_neg c27]
  by_cases c28 : v0 &&& 63 = 28
  · rw [if_pos c28]
    exact o_28 hN h
  rw [if_neg c28]
  by_cases c29 : v0 &&& 63 = 29
  · rw [if_pos c29]
    exact o_29 hN h
  rw [if_neg c29]
  by_cases c30 : v0 &&& 63 = 30
  · rw [if_pos c30]
    exact o_30 hN h
  rw [if_neg c30]
  by_cases c31 : v0 &&& 63 = 31
  · rw [if_pos c31]
    exact o_31 hN h
  rw [if_neg c31]
  by_cases c32 : v0 &&& 63 = 32
  · rw [if_pos c32]
    exact o_32 hN h
  rw [if_neg c32]
  by_cases c33 : v0 &&& 63 = 33
  · rw [if_pos c33]
    exact o_33 (by omega) h
  rw [if_neg c33]
  by_cases c34 : v0 &&& 63 = 34
  · rw [if_pos c34]
    exact o_34 (by omega) h
  rw [if_neg c34]
  by_cases c35 : v0 &&& 63 = 35
  · rw [if_pos c35]
    exact o_35 (by omega) h
  rw [if_neg c35]
  exact ⟨(M, R), rfl, h⟩
