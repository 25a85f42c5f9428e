/-! a slow table -/
theorem e4n : ∀ A, A < 256 → ∀ T, T < 256 → nI T &&& (nI A ^^^ (-1 : Int32)) = nI (T &&& (255 - A)) := by decide +kernel
