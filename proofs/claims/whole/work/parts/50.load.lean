/-! PURE: the tree becomes the strategy -/
theorem load_L7 {F pc pn : Nat} {pa pe : Nat → Int32} (hpc : pc ≤ 8000) (hpn : pc ≤ pn) (hpn2 : pn < 2 ^ 31) :
    ∀ (k i n g : Nat) (ah ce : Nat → Int32), i ≤ pc → pc < i + k → i ≤ n → LL n → 5 * 8000 ≤ g + 5 * n → (∀ j, j < i → ah j = pa j ∧ ce j = pe j) →
    ∃ n' ah' ce' g', pm_X2_copyEntries_L7 F (nI pc) pn pa pn pe k (nI i) (nI i) n ah n ce g = some (nI pc, n', ah', n', ce', g') ∧ LL n' ∧ n ≤ n' ∧ pc ≤ n' ∧ (∀ j, j < pc → ah' j = pa j ∧ ce' j = pe j) ∧ g + 5 * n ≤ g' + 5 * n' ∧ g' ≤ g := by
  intro k
  induction k with
  | zero => intro i n g ah ce h1 h2; omega
  | succ k ih =>
    intro i n g ah ce h1 h2 hin hL hg hj
    rw [pm_X2_copyEntries_L7]
    by_cases h : i < pc
    · obtain ⟨n1, a1, c1, g1, q1, q2, q3, q4, q5, q6, q7, q8, q9, q10⟩ := add_ok (F := F) (g := g) (c := i) (n := n) (ah := ah) (ce := ce) (x := pa i) (y := pe i) (by omega) hin hL hg
      rw [z_gt h (by omega), z_bd (show i < pn by omega) hpn2, z_bd (show i < pn by omega) hpn2, z_cl (show i < 2 ^ 31 by omega), q1, bd7_e, z_1]
      obtain ⟨n2, a2, c2, g2, r1, r2, r3, r4, r5, r6, r7⟩ := ih (i + 1) n1 g1 a1 c1 h (by omega) q4 q2 (by omega) (fun j hji => by
        by_cases e : j = i
        · subst e; exact ⟨q6, q8⟩
        · exact ⟨(q5 j (by omega)).trans (hj j (by omega)).1, (q7 j (by omega)).trans (hj j (by omega)).2⟩)
      exact ⟨n2, a2, c2, g2, r1, r2, by omega, r4, r5, by omega, by omega⟩
    · have : i = pc := by omega
      subst this
      rw [z_le (Nat.le_refl _) (by omega)]
      exact ⟨n, ah, ce, g, rfl, hL, Nat.le_refl _, hin, hj, Nat.le_refl _, Nat.le_refl _⟩
theorem xload_ok {F pc pn n g : Nat} {pa pe ah ce : Nat → Int32} (hF : 8000 < F) (hpc : pc ≤ 8000) (hpn : pc ≤ pn) (hpn2 : pn < 2 ^ 31) (hL : LL n) (hg : 5 * 8000 ≤ g + 5 * n) :
    ∃ n' ah' ce' g', pm_X6_load F g (nI pc) pn pa pn pe n ah n ce = some (nI pc, nI pc, n', ah', n', ce', g') ∧ LL n' ∧ n ≤ n' ∧ pc ≤ n' ∧ (∀ j, j < pc → ah' j = pa j ∧ ce' j = pe j) ∧ g + 5 * n ≤ g' + 5 * n' ∧ g' ≤ g := by
  obtain ⟨n', ah', ce', g', q1, q2⟩ := load_L7 (F := F) (pa := pa) (pe := pe) hpc hpn hpn2 F 0 n g ah ce (by omega) (by omega) (by omega) hL hg (fun j hj => by omega)
  rw [show nI 0 = (0 : Int32) from nI_0] at q1
  refine ⟨n', ah', ce', g', ?_, q2⟩
  rw [pm_X6_load, pm_X2_copyEntries, q1, bd6_e, bd6_e]
theorem mload_L {F pc : Nat} {pa pe : Nat → Int32} (hpc : pc ≤ 8000) :
    ∀ (k i : Nat) (ah ce : Nat → Int32), i ≤ pc → pc < i + k → (∀ j, j < i → ah j = pa j ∧ ce j = pe j) →
    ∃ ah' ce', pm_X7_load_L2 F (nI pc) 8000 pa 8000 pe 8000 8000 k (nI i) ah ce = some (ah', ce') ∧ ∀ j, j < pc → ah' j = pa j ∧ ce' j = pe j := by
  intro k
  induction k with
  | zero => intro i ah ce h1 h2; omega
  | succ k ih =>
    intro i ah ce h1 h2 hj
    rw [pm_X7_load_L2]
    by_cases h : i < pc
    · rw [z_gt h (by omega), z_bd (show i < 8000 by omega) (by omega), z_bd (show i < 8000 by omega) (by omega), z_bd (show i < 8000 by omega) (by omega), z_bd (show i < 8000 by omega) (by omega), z_cl (show i < 2 ^ 31 by omega), z_1]
      exact ih (i + 1) _ _ h (by omega) (fun j hji => by
        by_cases e : j = i
        · subst e; exact ⟨u_s, u_s⟩
        · exact ⟨(u_n e).trans (hj j (by omega)).1, (u_n e).trans (hj j (by omega)).2⟩)
    · have : i = pc := by omega
      subst this
      rw [z_le (Nat.le_refl _) (by omega)]
      exact ⟨ah, ce, rfl, hj⟩
theorem mload_ok {F pc : Nat} {pa pe ah ce : Nat → Int32} (hF : 8000 < F) (hpc : pc ≤ 8000) :
    ∃ ah' ce', pm_X7_load F (nI pc) 8000 pa 8000 pe 8000 ah 8000 ce = some (nI pc, nI pc, ah', ce') ∧ ∀ j, j < pc → ah' j = pa j ∧ ce' j = pe j := by
  obtain ⟨ah', ce', q1, q2⟩ := mload_L (F := F) (pa := pa) (pe := pe) hpc F 0 ah ce (by omega) (by omega) (fun j hj => by omega)
  rw [show nI 0 = (0 : Int32) from nI_0] at q1
  refine ⟨ah', ce', ?_, q2⟩
  rw [pm_X7_load, q1, bd2_e]
/-- a cell by its line and column, as both sides look for it -/
theorem place_ok {F N : Nat} (hN : N < 12) (x y : Int32) : (∃ i j, i < N ∧ j < N ∧ x = nI i ∧ y = nI j ∧ pm_X0_numberIn F (nI N) x y = some (nI (N * j + i)) ∧ pm_X7_isCell F (nI N) x y = some 1) ∨ (pm_X0_numberIn F (nI N) x y = some (-1) ∧ pm_X7_isCell F (nI N) x y = some 0) := by
  rw [pm_X0_numberIn, pm_X7_isCell]
  have h0 : ∀ k, k < N → ¬ nI k < 0 := fun k hk => nI_neg (by omega)
  have h1 : ∀ z : Int32, nI N ≤ z → ¬ z < 0 := by
    intro z hz hz2
    have a := Int32.le_iff_toInt_le.mp hz
    have b := Int32.lt_iff_toInt_lt.mp hz2
    rw [nI_toInt (by omega)] at a
    have : (0 : Int32).toInt = 0 := by decide
    omega
  rcases pk_ix x (show N < 2 ^ 31 by omega) with hx | hx | ⟨i, hi, rfl⟩
  · exact Or.inr ⟨if_pos hx, if_pos hx⟩
  · rw [if_neg (h1 x hx), if_pos hx, if_neg (h1 x hx), if_pos hx]
    refine Or.inr ⟨rfl, ?_⟩
    by_cases hy : y < 0
    · rw [if_pos hy]
    · rw [if_neg hy]
  · rw [if_neg (h0 i hi), z_gt hi (by omega), if_neg (h0 i hi)]
    rcases pk_ix y (show N < 2 ^ 31 by omega) with hy | hy | ⟨j, hj, rfl⟩
    · exact Or.inr ⟨if_pos hy, if_pos hy⟩
    · rw [if_neg (h1 y hy), if_neg (h1 y hy), z_gt hi (by omega), if_pos hy, if_neg (k2_nlt hy)]
      exact Or.inr ⟨rfl, rfl⟩
    · rw [if_neg (h0 j hj), if_neg (h0 j hj), z_gt hi (by omega), z_gt hj (by omega), if_pos (nI_lt hj (by omega)), pk_mul, nI_add]
      exact Or.inl ⟨i, j, hi, hj, rfl, rfl, rfl, rfl⟩
