/-! PURE: node and strategy on both sides -/
def ND (nc nn : Nat) (a1 a2 a3 a4 a5 a6 b1 b2 b3 b4 b5 b6 : Nat → Int32) : Prop := nc ≤ 8000 ∧ nc ≤ nn ∧ LL nn ∧ ∀ i, i < nc → a1 i = b1 i ∧ a2 i = b2 i ∧ a3 i = b3 i ∧ a4 i = b4 i ∧ a5 i = b5 i ∧ a6 i = b6 i
theorem node_both {F nc nn : Nat} {a1 a2 a3 a4 a5 a6 b1 b2 b3 b4 b5 b6 : Nat → Int32} (x y : Int32) (h : ND nc nn a1 a2 a3 a4 a5 a6 b1 b2 b3 b4 b5 b6) : ∃ r, pm_X6_node F (nI nc) nn a1 nn a2 nn a3 nn a4 nn a5 nn a6 x y = some r ∧ pm_X7_node F (nI nc) 8000 b1 8000 b2 8000 b3 8000 b4 8000 b5 8000 b6 x y = some r := by
  have h8 := h.1
  have hl := LL_le h.2.2.1
  have hnn := h.2.1
  rw [pm_X6_node, pm_X3_tell, pm_X7_node]
  rcases pk_ix x (show nc < 2 ^ 31 by omega) with hx | hx | ⟨j, hj, rfl⟩
  · rw [if_pos hx, bd1_e, if_pos hx]
    exact ⟨-1, rfl, rfl⟩
  · have hx0 := ge_nneg (show nc < 2 ^ 31 by omega) hx
    rw [if_neg hx0, if_neg (k2_nlt hx), bd1_e, if_neg hx0, if_neg (k2_nlt hx)]
    exact ⟨-1, rfl, rfl⟩
  · obtain ⟨e1, e2, e3, e4, e5, e6⟩ := h.2.2.2 j hj
    have z1 : ∀ {a : Option Int32}, (if nI j < 0 ∨ nn ≤ (nI j).toNatClampNeg then none else a) = a := fun {a} => z_bd (show j < nn by omega) (by omega)
    have z2 : ∀ {a : Option Int32}, (if nI j < 0 ∨ 8000 ≤ (nI j).toNatClampNeg then none else a) = a := fun {a} => z_bd (show j < 8000 by omega) (by omega)
    rw [if_neg (nI_neg (show j < 2 ^ 31 by omega)), if_pos (nI_lt hj (by omega)), if_neg (nI_neg (show j < 2 ^ 31 by omega)), if_pos (nI_lt hj (by omega))]
    simp only [z1, z2]
    rw [z_cl (show j < 2 ^ 31 by omega), e1, e2, e3, e4, e5, e6]
    by_cases c0 : y = 0
    · rw [if_pos c0]; exact ⟨_, rfl, rfl⟩
    rw [if_neg c0]
    by_cases c1 : y = 1
    · rw [if_pos c1]; exact ⟨_, rfl, rfl⟩
    rw [if_neg c1]
    by_cases c2 : y = 2
    · rw [if_pos c2]; exact ⟨_, rfl, rfl⟩
    rw [if_neg c2]
    by_cases c3 : y = 3
    · rw [if_pos c3]; exact ⟨_, rfl, rfl⟩
    rw [if_neg c3]
    by_cases c4 : y = 4
    · rw [if_pos c4]; exact ⟨_, rfl, rfl⟩
    rw [if_neg c4]
    by_cases c5 : y = 5
    · rw [if_pos c5]; exact ⟨_, rfl, rfl⟩
    rw [if_neg c5]
    exact ⟨_, rfl, rfl⟩
theorem le1_of {x : Int32} (h0 : ¬ x < 0) (h1 : x ≤ 1) : x = 0 ∨ x = 1 := by
  have a := Int32.le_iff_toInt_le.mp h1
  have b : ¬ x.toInt < (0 : Int32).toInt := fun q => h0 (Int32.lt_iff_toInt_lt.mpr q)
  have e0 : (0 : Int32).toInt = 0 := by decide
  have e1 : (1 : Int32).toInt = 1 := by decide
  have : x.toInt = 0 ∨ x.toInt = 1 := by omega
  rcases this with q | q
  · exact Or.inl (Int32.toInt_inj.mp (by rw [q, e0]))
  · exact Or.inr (Int32.toInt_inj.mp (by rw [q, e1]))
theorem strategy_both {F ec pn : Nat} {pa pe ma me : Nat → Int32} (x y : Int32) (h : TR ec pn pa pe ma me) : ∃ r, pm_X6_strategy F (nI ec) pn pa pn pe x y = some r ∧ pm_X7_strategy F (nI ec) 8000 ma 8000 me x y = some r := by
  have h8 := h.1
  have hl := LL_le h.2.2.1
  have hnn := h.2.1
  rw [pm_X6_strategy, pm_X2_has, pm_X7_strategy]
  rcases pk_ix x (show ec < 2 ^ 31 by omega) with hx | hx | ⟨j, hj, rfl⟩
  · rw [if_pos hx, bd1_e, if_pos rfl, if_pos hx]
    exact ⟨-3, rfl, rfl⟩
  · have hx0 := ge_nneg (show ec < 2 ^ 31 by omega) hx
    rw [if_neg hx0, if_pos hx, bd1_e, if_pos rfl, if_neg hx0, if_pos hx]
    exact ⟨-3, rfl, rfl⟩
  · obtain ⟨e1, e2⟩ := h.2.2.2.1 j hj
    rw [if_neg (nI_neg (show j < 2 ^ 31 by omega)), z_gt hj (by omega), bd1_e, if_neg (show ¬ (1 : Int32) = 0 by decide), if_neg (nI_neg (show j < 2 ^ 31 by omega)), z_gt hj (by omega), z_bd (show j < pn by omega) (by omega), z_bd (show j < pn by omega) (by omega), z_bd (show j < 8000 by omega) (by omega), z_bd (show j < 8000 by omega) (by omega), z_cl (show j < 2 ^ 31 by omega), e1, e2]
    by_cases c0 : y = 0
    · subst c0
      rw [if_pos rfl, if_neg (by decide), if_pos (by decide), if_pos rfl]
      exact ⟨_, rfl, rfl⟩
    · by_cases c1 : y = 1
      · subst c1
        rw [if_neg (by decide), if_pos rfl, if_neg (by decide), if_pos (by decide), if_neg (by decide)]
        exact ⟨_, rfl, rfl⟩
      · rw [if_neg c0, if_neg c1]
        by_cases h0 : y < 0
        · rw [if_pos h0]; exact ⟨_, rfl, rfl⟩
        · rw [if_neg h0]
          by_cases h1 : y ≤ 1
          · rcases le1_of h0 h1 with q | q
            · exact absurd q c0
            · exact absurd q c1
          · rw [if_neg h1]; exact ⟨_, rfl, rfl⟩
