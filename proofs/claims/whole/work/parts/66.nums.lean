/-! PURE: proof numbers: the least, the sum -/
def sm (X : Nat → Nat) (c : Nat) : Nat → Nat
  | 0 => 0
  | k + 1 => sm X c k + X (c + k)
def cap (x : Nat) : Nat := if x < 1000000000 then x else 1000000000
theorem cap_le (x : Nat) : cap x ≤ 1000000000 := by
  unfold cap
  split <;> omega
def amn (X : Nat → Nat) (c : Nat) : Nat → Nat
  | 0 => c
  | k + 1 => if X (amn X c k) ≤ X (c + k) then amn X c k else c + k
theorem amn_in {X : Nat → Nat} {c : Nat} : ∀ k, 0 < k → c ≤ amn X c k ∧ amn X c k < c + k := by
  intro k
  induction k with
  | zero => intro h; omega
  | succ k ih =>
    intro _
    rw [amn]
    by_cases h : X (amn X c k) ≤ X (c + k)
    · rw [if_pos h]
      cases k with
      | zero => show c ≤ c ∧ c < c + 0 + 1; omega
      | succ k => have := ih (by omega); omega
    · rw [if_neg h]; omega
theorem amn_le {X : Nat → Nat} {c : Nat} : ∀ k j, j < k → X (amn X c k) ≤ X (c + j) := by
  intro k
  induction k with
  | zero => intro j h; omega
  | succ k ih =>
    intro j hj
    rw [amn]
    by_cases h : X (amn X c k) ≤ X (c + k)
    · rw [if_pos h]
      by_cases e : j = k
      · subst e; exact h
      · exact ih j (by omega)
    · rw [if_neg h]
      by_cases e : j = k
      · subst e; exact Nat.le_refl _
      · have := ih j (by omega); omega
theorem amn_1 {X : Nat → Nat} {c : Nat} : amn X c 1 = c := by
  show (if X c ≤ X (c + 0) then c else c + 0) = c
  exact if_pos (Nat.le_refl (X c))
/-- numbers of a row, at the children c .. c + m - 1 -/
def RV (c m : Nat) (v : Nat → Int32) (X : Nat → Nat) : Prop := ∀ j, c ≤ j → j < c + m → v j = nI (X j) ∧ X j ≤ 1000000000
theorem least_L {F nn c m i : Nat} {ch mn v : Nat → Int32} {X : Nat → Nat} (hi : i < nn) (hnn : nn ≤ 8000) (hc : ch i = nI c) (hm : mn i = nI m) (hcm : c + m ≤ nn) (hX : RV c m v X) :
    ∀ k j, 0 < j → j ≤ m → m < j + k → pm_X3_leastChild_L10 F ch nn mn nn v (nI i) k (nI (amn X c j)) (nI j) = some (nI (amn X c m)) := by
  intro k
  induction k with
  | zero => intro j h0 h1 h2; omega
  | succ k ih =>
    intro j h0 h1 h2
    rw [pm_X3_leastChild_L10, z_bd hi (by omega), z_cl (show i < 2 ^ 31 by omega), hm]
    by_cases h : j < m
    · obtain ⟨a1, a2⟩ := amn_in (X := X) (c := c) j h0
      obtain ⟨x1, x2⟩ := hX (amn X c j) a1 (by omega)
      obtain ⟨y1, y2⟩ := hX (c + j) (by omega) (by omega)
      rw [z_gt h (by omega), hc, nI_add, z_bd (show c + j < nn by omega) (by omega), z_bd (show amn X c j < nn by omega) (by omega), z_cl (show c + j < 2 ^ 31 by omega), z_cl (show amn X c j < 2 ^ 31 by omega), x1, y1, z_1]
      by_cases hh : X (amn X c j) ≤ X (c + j)
      · rw [z_le hh (by omega)]
        have := ih (j + 1) (by omega) h (by omega)
        rw [amn, if_pos hh] at this
        exact this
      · rw [z_gt (show X (c + j) < X (amn X c j) by omega) (by omega)]
        have := ih (j + 1) (by omega) h (by omega)
        rw [amn, if_neg hh] at this
        exact this
    · have : j = m := by omega
      subst this
      rw [z_le (Nat.le_refl _) (by omega)]
theorem least_ok {F nn c m i : Nat} {ch mn v : Nat → Int32} {X : Nat → Nat} (hF : 9000 < F) (hi : i < nn) (hnn : nn ≤ 8000) (hc : ch i = nI c) (hm : mn i = nI m) (h0 : 0 < m) (hcm : c + m ≤ nn) (hX : RV c m v X) : pm_X3_leastChild F nn ch nn mn nn v (nI i) = some (nI (amn X c m)) := by
  have q := least_L (F := F) hi hnn hc hm hcm hX F 1 (by omega) (by omega) (by omega)
  rw [amn_1, show nI 1 = (1 : Int32) from by decide] at q
  rw [pm_X3_leastChild, z_bd hi (by omega), z_cl (show i < 2 ^ 31 by omega), hc, q, bd1_e]
theorem least_0 {F nn i : Nat} {ch mn v : Nat → Int32} (hF : 0 < F) (hi : i < nn) (hnn : nn ≤ 8000) (hm : mn i = nI 0) : pm_X3_leastChild F nn ch nn mn nn v (nI i) = some (ch i) := by
  obtain ⟨F', rfl⟩ : ∃ F', F = F' + 1 := ⟨F - 1, by omega⟩
  rw [pm_X3_leastChild, z_bd hi (by omega), z_cl (show i < 2 ^ 31 by omega), pm_X3_leastChild_L10, z_bd hi (by omega), z_cl (show i < 2 ^ 31 by omega), hm, if_pos (show nI 0 ≤ (1 : Int32) by rw [nI_0]; decide), bd1_e]
theorem cap_add {s x : Nat} (hx : x ≤ 1000000000) : (if nI (cap s) + nI x < (1000000000 : Int32) then nI (cap s) + nI x else (1000000000 : Int32)) = nI (cap (s + x)) := by
  have hc := cap_le s
  have e9 : (1000000000 : Int32) = nI 1000000000 := by decide
  rw [nI_add, e9]
  by_cases h : cap s + x < 1000000000
  · rw [if_pos (nI_lt h (by omega))]
    congr 1
    unfold cap at *
    by_cases hs : s < 1000000000
    · rw [if_pos hs] at *; rw [if_pos (by omega)]
    · rw [if_neg hs] at *; omega
  · rw [if_neg (nI_nlt (by omega) (by omega))]
    congr 1
    unfold cap at *
    by_cases hs : s < 1000000000
    · rw [if_pos hs] at *; rw [if_neg (by omega)]
    · rw [if_neg hs] at *; rw [if_neg (by omega)]
theorem sum_L {F nn c m i : Nat} {ch mn v : Nat → Int32} {X : Nat → Nat} (hi : i < nn) (hnn : nn ≤ 8000) (hc : ch i = nI c) (hm : mn i = nI m) (hcm : c + m ≤ nn) (hX : RV c m v X) :
    ∀ k j, j ≤ m → m < j + k → pm_X3_sumOfChildren_L5 F nn ch nn mn nn v (nI i) k (nI (cap (sm X c j))) (nI j) = some (nI (cap (sm X c m))) := by
  intro k
  induction k with
  | zero => intro j h1 h2; omega
  | succ k ih =>
    intro j h1 h2
    rw [pm_X3_sumOfChildren_L5, z_bd hi (by omega), z_cl (show i < 2 ^ 31 by omega), hm]
    by_cases h : j < m
    · obtain ⟨y1, y2⟩ := hX (c + j) (by omega) (by omega)
      rw [z_gt h (by omega), if_neg (z_in hi (by omega)), hc, nI_add, z_bd (show c + j < nn by omega) (by omega), z_cl (show c + j < 2 ^ 31 by omega), y1, cap_add y2, z_1]
      exact ih (j + 1) h (by omega)
    · have : j = m := by omega
      subst this
      rw [z_le (Nat.le_refl _) (by omega)]
theorem sum_ok {F nn c m i : Nat} {ch mn v : Nat → Int32} {X : Nat → Nat} (hF : 9000 < F) (hi : i < nn) (hnn : nn ≤ 8000) (hc : ch i = nI c) (hm : mn i = nI m) (hcm : c + m ≤ nn) (hX : RV c m v X) : pm_X3_sumOfChildren F nn ch nn mn nn v (nI i) = some (nI (cap (sm X c m))) := by
  have q := sum_L (F := F) hi hnn hc hm hcm hX F 0 (by omega) (by omega)
  rw [show cap (sm X c 0) = 0 from rfl, show nI 0 = (0 : Int32) from nI_0] at q
  rw [pm_X3_sumOfChildren, q, bd1_e]
/-! the reference's -/
theorem best1_L {F c m i : Nat} {ch mn pf df : Nat → Int32} {X : Nat → Nat} (hi : i < 8000) (hc : ch i = nI c) (hm : mn i = nI m) (hcm : c + m ≤ 8000) (hX : RV c m pf X) :
    ∀ k j, j ≤ m → m < j + k → pm_X7_best_L15 F 8000 pf 8000 df ch 8000 mn (nI i) 1 k (nI (amn X c j)) (nI (c + j)) = some (nI (amn X c m)) := by
  intro k
  induction k with
  | zero => intro j h1 h2; omega
  | succ k ih =>
    intro j h1 h2
    rw [pm_X7_best_L15, z_bd hi (by omega), z_cl (show i < 2 ^ 31 by omega), hm, hc, nI_add]
    by_cases h : j < m
    · have a : c ≤ amn X c j ∧ amn X c j < c + m := by
        cases j with
        | zero => show c ≤ c ∧ c < c + m; omega
        | succ j => have := amn_in (X := X) (c := c) (j + 1) (by omega); omega
      obtain ⟨x1, x2⟩ := hX (amn X c j) a.1 a.2
      obtain ⟨y1, y2⟩ := hX (c + j) (by omega) (by omega)
      rw [z_gt (show c + j < c + m by omega) (by omega), if_neg (show ¬ (1 : Int32) = 0 by decide), z_bd (show c + j < 8000 by omega) (by omega), z_bd (show amn X c j < 8000 by omega) (by omega), z_cl (show c + j < 2 ^ 31 by omega), z_cl (show amn X c j < 2 ^ 31 by omega), x1, y1, z_1]
      by_cases hh : X (amn X c j) ≤ X (c + j)
      · rw [z_le hh (by omega)]
        have := ih (j + 1) h (by omega)
        rw [amn, if_pos hh] at this
        exact this
      · rw [z_gt (show X (c + j) < X (amn X c j) by omega) (by omega)]
        have := ih (j + 1) h (by omega)
        rw [amn, if_neg hh] at this
        exact this
    · have : j = m := by omega
      subst this
      rw [z_le (Nat.le_refl _) (by omega)]
theorem best0_L {F c m i : Nat} {ch mn pf df : Nat → Int32} {X : Nat → Nat} (hi : i < 8000) (hc : ch i = nI c) (hm : mn i = nI m) (hcm : c + m ≤ 8000) (hX : RV c m df X) :
    ∀ k j, j ≤ m → m < j + k → pm_X7_best_L15 F 8000 pf 8000 df ch 8000 mn (nI i) 0 k (nI (amn X c j)) (nI (c + j)) = some (nI (amn X c m)) := by
  intro k
  induction k with
  | zero => intro j h1 h2; omega
  | succ k ih =>
    intro j h1 h2
    rw [pm_X7_best_L15, z_bd hi (by omega), z_cl (show i < 2 ^ 31 by omega), hm, hc, nI_add]
    by_cases h : j < m
    · have a : c ≤ amn X c j ∧ amn X c j < c + m := by
        cases j with
        | zero => show c ≤ c ∧ c < c + m; omega
        | succ j => have := amn_in (X := X) (c := c) (j + 1) (by omega); omega
      obtain ⟨x1, x2⟩ := hX (amn X c j) a.1 a.2
      obtain ⟨y1, y2⟩ := hX (c + j) (by omega) (by omega)
      rw [z_gt (show c + j < c + m by omega) (by omega), if_pos rfl, z_bd (show c + j < 8000 by omega) (by omega), z_bd (show amn X c j < 8000 by omega) (by omega), z_cl (show c + j < 2 ^ 31 by omega), z_cl (show amn X c j < 2 ^ 31 by omega), x1, y1, z_1]
      by_cases hh : X (amn X c j) ≤ X (c + j)
      · rw [z_le hh (by omega)]
        have := ih (j + 1) h (by omega)
        rw [amn, if_pos hh] at this
        exact this
      · rw [z_gt (show X (c + j) < X (amn X c j) by omega) (by omega)]
        have := ih (j + 1) h (by omega)
        rw [amn, if_neg hh] at this
        exact this
    · have : j = m := by omega
      subst this
      rw [z_le (Nat.le_refl _) (by omega)]
theorem best1_ok {F c m i : Nat} {ch mn pf df : Nat → Int32} {X : Nat → Nat} (hF : 9000 < F) (hi : i < 8000) (hc : ch i = nI c) (hm : mn i = nI m) (hcm : c + m ≤ 8000) (hX : RV c m pf X) : pm_X7_best F 8000 pf 8000 df 8000 ch 8000 mn (nI i) 1 = some (nI (amn X c m)) := by
  have q := best1_L (F := F) (df := df) hi hc hm hcm hX F 0 (by omega) (by omega)
  rw [show amn X c 0 = c from rfl, Nat.add_zero] at q
  rw [pm_X7_best, z_bd hi (by omega), z_cl (show i < 2 ^ 31 by omega), hc, q, bd1_e]
theorem best0_ok {F c m i : Nat} {ch mn pf df : Nat → Int32} {X : Nat → Nat} (hF : 9000 < F) (hi : i < 8000) (hc : ch i = nI c) (hm : mn i = nI m) (hcm : c + m ≤ 8000) (hX : RV c m df X) : pm_X7_best F 8000 pf 8000 df 8000 ch 8000 mn (nI i) 0 = some (nI (amn X c m)) := by
  have q := best0_L (F := F) (pf := pf) hi hc hm hcm hX F 0 (by omega) (by omega)
  rw [show amn X c 0 = c from rfl, Nat.add_zero] at q
  rw [pm_X7_best, z_bd hi (by omega), z_cl (show i < 2 ^ 31 by omega), hc, q, bd1_e]
def mnM (X : Nat → Nat) (c : Nat) : Nat → Nat
  | 0 => 1000000000
  | k + 1 => if mnM X c k ≤ X (c + k) then mnM X c k else X (c + k)
theorem mnM_e {X : Nat → Nat} {c m : Nat} (hX : ∀ j, c ≤ j → j < c + m → X j ≤ 1000000000) : ∀ k, k ≤ m → mnM X c k ≤ 1000000000 ∧ (0 < k → mnM X c k = X (amn X c k)) := by
  intro k
  induction k with
  | zero => intro _; exact ⟨Nat.le_refl _, fun h => by omega⟩
  | succ k ih =>
    intro hk
    obtain ⟨i1, i2⟩ := ih (by omega)
    have hx := hX (c + k) (by omega) (by omega)
    refine ⟨?_, fun _ => ?_⟩
    · rw [mnM]; split <;> omega
    · rw [mnM, amn]
      cases k with
      | zero =>
        show (if 1000000000 ≤ X (c + 0) then 1000000000 else X (c + 0)) = X (if X c ≤ X (c + 0) then c else c + 0)
        rw [if_pos (show X c ≤ X (c + 0) from Nat.le_refl _)]
        have hx' : X c ≤ 1000000000 := hx
        show (if 1000000000 ≤ X c then 1000000000 else X c) = X c
        split <;> omega
      | succ k =>
        rw [i2 (by omega)]
        by_cases h : X (amn X c (k + 1)) ≤ X (c + (k + 1))
        · rw [if_pos h, if_pos h]
        · rw [if_neg h, if_neg h]
theorem sm_le {X : Nat → Nat} {c m : Nat} (hX : ∀ j, c ≤ j → j < c + m → X j ≤ 1000000000) : ∀ k, k ≤ m → sm X c k ≤ k * 1000000000 := by
  intro k
  induction k with
  | zero => intro _; exact Nat.zero_le _
  | succ k ih =>
    intro hk
    have := ih (by omega)
    have := hX (c + k) (by omega) (by omega)
    rw [sm]
    omega
theorem mreck_L {F c m i : Nat} {ch mn pf df : Nat → Int32} {P D : Nat → Nat} (hi : i < 8000) (hc : ch i = nI c) (hm : mn i = nI m) (hcm : c + m ≤ 8000) (hP : RV c m pf P) (hD : RV c m df D) :
    ∀ k j, j ≤ m → m < j + k → pm_X7_reckon_L21 F 8000 pf 8000 df ch 8000 mn (nI i) k (nI (mnM P c j)) (nI (mnM D c j)) (lN (sm P c j)) (lN (sm D c j)) (nI (c + j)) = some (nI (mnM P c m), nI (mnM D c m), lN (sm P c m), lN (sm D c m)) := by
  intro k
  induction k with
  | zero => intro j h1 h2; omega
  | succ k ih =>
    intro j h1 h2
    rw [pm_X7_reckon_L21, z_bd hi (by omega), z_cl (show i < 2 ^ 31 by omega), hm, hc, nI_add]
    by_cases h : j < m
    · obtain ⟨x1, x2⟩ := hP (c + j) (by omega) (by omega)
      obtain ⟨y1, y2⟩ := hD (c + j) (by omega) (by omega)
      have u1 := (mnM_e (X := P) (c := c) (m := m) (fun j a b => (hP j a b).2) j h1).1
      have u2 := (mnM_e (X := D) (c := c) (m := m) (fun j a b => (hD j a b).2) j h1).1
      have f : ∀ a b : Nat, a ≤ 1000000000 → b ≤ 1000000000 → (if nI a ≤ nI b then some (nI a) else some (nI b)) = some (nI (if a ≤ b then a else b)) := by
        intro a b ha hb
        by_cases hh : a ≤ b
        · rw [z_le hh (by omega), if_pos hh]
        · rw [z_gt (show b < a by omega) (by omega), if_neg hh]
      rw [z_gt (show c + j < c + m by omega) (by omega), z_bd (show c + j < 8000 by omega) (by omega), z_cl (show c + j < 2 ^ 31 by omega), x1, y1, f _ _ u1 x2, bd1_e, if_neg (z_in (show c + j < 8000 by omega) (by omega)), f _ _ u2 y2, bd1_e, nI_l (show P (c + j) < 2 ^ 31 by omega), nI_l (show D (c + j) < 2 ^ 31 by omega), lN_add, lN_add, z_1]
      exact ih (j + 1) h (by omega)
    · have : j = m := by omega
      subst this
      rw [z_le (Nat.le_refl _) (by omega)]
theorem cap_long {s : Nat} (hs : s < 2 ^ 62) : (if lg_cmp (lN s) (1000000000 : Int64) ≤ 0 then some (lN s) else some (1000000000 : Int64)) = some (lN (cap s)) := by
  have e9 : (1000000000 : Int64) = lN 1000000000 := by decide
  rw [e9]
  by_cases h : s ≤ 1000000000
  · rw [if_pos ((lg_cmp_le _ _).mpr ((pk_lLE (by omega) (by omega)).mpr h))]
    unfold cap
    by_cases h2 : s < 1000000000
    · rw [if_pos h2]
    · rw [if_neg h2, show s = 1000000000 by omega]
  · rw [if_neg (fun q => h ((pk_lLE (by omega) (by omega)).mp ((lg_cmp_le _ _).mp q)))]
    unfold cap
    rw [if_neg (by omega)]
theorem mreck_ok {F c m i : Nat} {ch mn pf df : Nat → Int32} {P D : Nat → Nat} (hF : 9000 < F) (hi : i < 8000) (hc : ch i = nI c) (hm : mn i = nI m) (h0 : 0 < m) (hcm : c + m ≤ 8000) (hP : RV c m pf P) (hD : RV c m df D) :
    pm_X7_reckon F 8000 pf 8000 df 8000 ch 8000 mn (nI i) 1 = some (upd pf i (nI (P (amn P c m))), upd df i (nI (cap (sm D c m)))) ∧ pm_X7_reckon F 8000 pf 8000 df 8000 ch 8000 mn (nI i) 0 = some (upd pf i (nI (cap (sm P c m))), upd df i (nI (D (amn D c m)))) := by
  have q := mreck_L (F := F) hi hc hm hcm hP hD F 0 (by omega) (by omega)
  have s1 := sm_le (X := P) (c := c) (m := m) (fun j a b => (hP j a b).2) m (Nat.le_refl _)
  have s2 := sm_le (X := D) (c := c) (m := m) (fun j a b => (hD j a b).2) m (Nat.le_refl _)
  have m1 := (mnM_e (X := P) (c := c) (m := m) (fun j a b => (hP j a b).2) m (Nat.le_refl _)).2 h0
  have m2 := (mnM_e (X := D) (c := c) (m := m) (fun j a b => (hD j a b).2) m (Nat.le_refl _)).2 h0
  rw [show nI (mnM P c 0) = (1000000000 : Int32) from by show nI 1000000000 = _; decide, show nI (mnM D c 0) = (1000000000 : Int32) from by show nI 1000000000 = _; decide, show lN (sm P c 0) = (0 : Int64) from by show lN 0 = _; decide, show lN (sm D c 0) = (0 : Int64) from by show lN 0 = _; decide, Nat.add_zero, m1, m2] at q
  constructor
  · rw [pm_X7_reckon, z_bd hi (by omega), z_cl (show i < 2 ^ 31 by omega), hc, q, bd4_e, cap_long (by omega), bd1_e, cap_long (by omega), bd1_e, if_neg (show ¬ (1 : Int32) = 0 by decide), bd1_e, if_neg (z_in hi (by omega)), if_neg (show ¬ (1 : Int32) = 0 by decide), if_neg (z_in hi (by omega)), lN_i]
  · rw [pm_X7_reckon, z_bd hi (by omega), z_cl (show i < 2 ^ 31 by omega), hc, q, bd4_e, cap_long (by omega), bd1_e, cap_long (by omega), bd1_e, if_pos rfl, bd1_e, if_neg (z_in hi (by omega)), if_pos rfl, if_neg (z_in hi (by omega)), lN_i]
theorem xreck_ok {F nn c m i : Nat} {ch mn pf df : Nat → Int32} {P D : Nat → Nat} {fs mv : Int32} (hF : 9000 < F) (hi : i < nn) (hnn : nn ≤ 8000) (hc : ch i = nI c) (hm : mn i = nI m) (h0 : 0 < m) (hcm : c + m ≤ nn) (hP : RV c m pf P) (hD : RV c m df D) :
    pm_X4_reckon F fs mv nn pf nn df nn ch nn mn (nI i) = if mv = fs then some (upd pf i (nI (P (amn P c m))), upd df i (nI (cap (sm D c m)))) else some (upd pf i (nI (cap (sm P c m))), upd df i (nI (D (amn D c m)))) := by
  obtain ⟨a1, a2⟩ := amn_in (X := P) (c := c) m h0
  obtain ⟨b1, b2⟩ := amn_in (X := D) (c := c) m h0
  rw [pm_X4_reckon, z_bd hi (by omega), z_cl (show i < 2 ^ 31 by omega), hm, if_neg (nI_ne0 h0 (by omega))]
  by_cases h : mv = fs
  · rw [if_pos h, if_pos h, if_pos h, least_ok hF hi hnn hc hm h0 hcm hP, bd1_e, z_bd (show amn P c m < nn by omega) (by omega), if_neg (z_in hi (by omega)), sum_ok hF hi hnn hc hm hcm hD, bd1_e, if_neg (z_in hi (by omega)), z_cl (show amn P c m < 2 ^ 31 by omega), (hP _ a1 a2).1]
  · rw [if_neg h, if_neg h, if_neg h, least_ok hF hi hnn hc hm h0 hcm hD, bd1_e, z_bd (show amn D c m < nn by omega) (by omega), if_neg (z_in hi (by omega)), sum_ok hF hi hnn hc hm hcm hP, bd1_e, if_neg (z_in hi (by omega)), z_cl (show amn D c m < 2 ^ 31 by omega), (hD _ b1 b2).1]
