/-! PURE: whose is a cell on the board or around it; coordinates are shifted by 2 -/
def co (X : Nat) : Int32 := nI X - 2
def inn (N X Y : Nat) : Bool := decide (2 ≤ X) && decide (X < N + 2) && decide (2 ≤ Y) && decide (Y < N + 2)
def sdo (N X Y : Nat) : Int32 :=
  if (Y = 1 ∨ Y = N + 2) ∧ 1 ≤ X ∧ X ≤ N + 2 ∧ ¬ (X = Y) then 1 else if (X = 1 ∨ X = N + 2) ∧ 2 ≤ Y ∧ Y ≤ N + 1 then 2 else 0
def sd (N : Nat) (st : Nat → Int32) (X Y : Nat) : Int32 := if inn N X Y = true then st (N * (Y - 2) + (X - 2)) else sdo N X Y
def sdB (N X Y : Nat) : Bool :=
  if inn N X Y then decide (pm_X0_numberIn 0 (nI N) (co X) (co Y) = some (nI (N * (Y - 2) + (X - 2)))) && decide (pm_X7_isCell 0 (nI N) (co X) (co Y) = some 1) && decide (nI N * co Y + co X = nI (N * (Y - 2) + (X - 2))) && decide (N * (Y - 2) + (X - 2) < N * N)
  else decide (pm_X0_numberIn 0 (nI N) (co X) (co Y) = some (-1)) && decide (pm_X7_isCell 0 (nI N) (co X) (co Y) = some 0) && decide (pm_X0_sideAt 0 (nI N) 0 (fun _ => 0) (co X) (co Y) = some (sdo N X Y)) && decide (pm_X7_sideAt 0 (nI N) 0 (fun _ => 0) (co X) (co Y) = some (sdo N X Y))
theorem sd_all : ∀ N, N < 12 → 0 < N → ∀ X, X < 16 → ∀ Y, Y < 16 → sdB N X Y = true := by decide +kernel
theorem xside_ok {F N X Y : Nat} {st : Nat → Int32} (hN : N < 12) (h0 : 0 < N) (hX : X < 16) (hY : Y < 16) : pm_X0_sideAt F (nI N) (N * N) st (co X) (co Y) = some (sd N st X Y) := by
  have hn := sq_le hN
  have h := sd_all N hN h0 X hX Y hY
  unfold sdB at h
  unfold sd
  by_cases hi : inn N X Y = true
  · rw [if_pos hi] at h ⊢
    simp only [Bool.and_eq_true, decide_eq_true_eq] at h
    obtain ⟨⟨⟨h1, -⟩, -⟩, h4⟩ := h
    rw [pm_X0_sideAt, pm_X0_numberOf, show pm_X0_numberIn F (nI N) (co X) (co Y) = pm_X0_numberIn 0 (nI N) (co X) (co Y) from rfl, h1, bd1_e, bd1_e, if_neg (nI_m1 (by omega)), z_bd h4 (by omega), z_cl (by omega)]
  · rw [if_neg hi] at h ⊢
    simp only [Bool.and_eq_true, decide_eq_true_eq] at h
    obtain ⟨⟨⟨h1, -⟩, h3⟩, -⟩ := h
    rw [pm_X0_sideAt, pm_X0_numberOf, h1, bd1_e, bd1_e, if_pos rfl] at h3
    rw [pm_X0_sideAt, pm_X0_numberOf, show pm_X0_numberIn F (nI N) (co X) (co Y) = pm_X0_numberIn 0 (nI N) (co X) (co Y) from rfl, h1, bd1_e, bd1_e, if_pos rfl]
    exact h3
theorem mside_ok {F N X Y : Nat} {st : Nat → Int32} (hN : N < 12) (h0 : 0 < N) (hX : X < 16) (hY : Y < 16) : pm_X7_sideAt F (nI N) 121 st (co X) (co Y) = some (sd N st X Y) := by
  have hn := sq_le hN
  have h := sd_all N hN h0 X hX Y hY
  unfold sdB at h
  unfold sd
  by_cases hi : inn N X Y = true
  · rw [if_pos hi] at h ⊢
    simp only [Bool.and_eq_true, decide_eq_true_eq] at h
    obtain ⟨⟨⟨-, h2⟩, h3⟩, h4⟩ := h
    rw [pm_X7_sideAt, show pm_X7_isCell F (nI N) (co X) (co Y) = pm_X7_isCell 0 (nI N) (co X) (co Y) from rfl, h2, bd1_e, if_neg (show ¬ (1 : Int32) = 0 by decide), h3, z_bd (show N * (Y - 2) + (X - 2) < 121 by omega) (by omega), z_cl (by omega)]
  · rw [if_neg hi] at h ⊢
    simp only [Bool.and_eq_true, decide_eq_true_eq] at h
    obtain ⟨⟨⟨-, h2⟩, -⟩, h4⟩ := h
    rw [pm_X7_sideAt, h2, bd1_e, if_pos rfl] at h4
    rw [pm_X7_sideAt, show pm_X7_isCell F (nI N) (co X) (co Y) = pm_X7_isCell 0 (nI N) (co X) (co Y) from rfl, h2, bd1_e, if_pos rfl]
    exact h4
