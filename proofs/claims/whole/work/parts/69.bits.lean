/-! Bits of places -/
theorem mk1 : ∀ d, d < 256 → ∀ m, m < 256 → nI d &&& (nI m ^^^ (-1 : Int32)) = nI (d &&& (255 - m)) := by decide +kernel
theorem mk2 : ∀ m, m < 256 → ∀ y, y < 8 → bt (255 - m) y = !bt m y := by decide +kernel
theorem mk3 : ∀ m, m < 256 → (255 : Int32) - nI m = nI (255 - m) := by decide +kernel
