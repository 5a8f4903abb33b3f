/-! the quotients of meanSteps are numbers: at most 20 cans of at most 200 steps -/
theorem xnn_a : ∀ n, n < 10 → ∀ a, a < 2 * n + 3 → ∀ b, b < 100 → xnn (FP.ddiv (FP.i2d (nI (100 * a + b))) (FP.i2d (nI (n + 1)))) = true := by decide +kernel
theorem xnn_b : ∀ n, n < 5 → ∀ a, a < 2 * n + 23 → ∀ b, b < 100 → xnn (FP.ddiv (FP.i2d (nI (100 * a + b))) (FP.i2d (nI (n + 11)))) = true := by decide +kernel
theorem xnn_c : ∀ n, n < 5 → ∀ a, a < 2 * n + 33 → ∀ b, b < 100 → xnn (FP.ddiv (FP.i2d (nI (100 * a + b))) (FP.i2d (nI (n + 16)))) = true := by decide +kernel
theorem xnn_all {s n : Nat} (h0 : 0 < n) (h1 : n ≤ 20) (h2 : s ≤ 200 * n) : xnn (FP.ddiv (FP.i2d (nI s)) (FP.i2d (nI n))) = true := by
  have e : s = 100 * (s / 100) + s % 100 := (Nat.div_add_mod s 100).symm
  have hb := Nat.mod_lt s (show 0 < 100 by decide)
  by_cases q : n ≤ 10
  · have := xnn_a (n - 1) (by omega) (s / 100) (by omega) (s % 100) hb
    rw [← e, show n - 1 + 1 = n by omega] at this
    exact this
  · by_cases q2 : n ≤ 15
    · have := xnn_b (n - 11) (by omega) (s / 100) (by omega) (s % 100) hb
      rw [← e, show n - 11 + 11 = n by omega] at this
      exact this
    · have := xnn_c (n - 16) (by omega) (s / 100) (by omega) (s % 100) hb
      rw [← e, show n - 16 + 16 = n by omega] at this
      exact this
