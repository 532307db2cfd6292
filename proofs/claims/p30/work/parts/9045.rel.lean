/-! Shares of days, as doubles. -/
theorem rel_dec : ∀ D, D < 101 → ∀ m, m < 101 → 0 < D → m ≤ D → (match xdiv (FP.i2d (nI m)) (FP.i2d (nI D)) with
    | some v => decide (xcmpl v v = 0) && !decide (0 < xcmpg v xd1)
    | none => true) = true := by decide +kernel
theorem rel_dec0 : (decide (xcmpl xd1 xd1 = 0) && !decide (0 < xcmpg xd1 xd1)) = true := by decide +kernel
