/-- a count that is one more, less one -/
theorem oneLess7 {n : Nat} {C : aSc} (h : n < 2 ^ 31) : f_X7_oneLess (nI (n + 1)) C = some (nI n) := by
  rw [f_X7_oneLess, nI_pred, a_max]
  by_cases h0 : (0 : Int32) < nI n
  · rw [if_pos h0]
  · have : n = 0 := by
      have h1 : ¬ nI 0 < nI n := h0
      rw [nI_ltI (by omega) h] at h1
      omega
    subst this
    rfl
