/-- the pure functions of class and reference answer alike, on every script -/
theorem pure_law (L : Nat) (xs : Nat → Int32) (hL : L ≤ 2049) : ∃ F, pm_L_law F 600000 L xs = some 1 := ⟨10000, pure_F (by omega) (Nat.le_refl _) hL⟩
