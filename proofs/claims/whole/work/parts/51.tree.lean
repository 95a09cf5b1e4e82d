/-! PURE: the tree, on both sides -/
def TR (tc tn : Nat) (xa xc ma mc : Nat → Int32) : Prop := tc ≤ 8000 ∧ tc ≤ tn ∧ LL tn ∧ (∀ i, i < tc → xa i = ma i ∧ xc i = mc i) ∧ ∀ i, i < tc → xa i = -1 ∨ ∃ a, a < i ∧ xa i = nI a
theorem lt_m1 {x : Int32} (h : x < 0) (h1 : ¬ x = -1) : x < -1 := by
  have a := Int32.lt_iff_toInt_lt.mp h
  have e0 : (0 : Int32).toInt = 0 := by decide
  have e1 : (-1 : Int32).toInt = -1 := by decide
  have b : x.toInt ≠ -1 := fun e => h1 (Int32.toInt_inj.mp (by rw [e, e1]))
  exact Int32.lt_iff_toInt_lt.mpr (by omega)
theorem m1_lt {n : Nat} (hn : n < 2 ^ 31) : (-1 : Int32) < nI n := by
  have e1 : (-1 : Int32).toInt = -1 := by decide
  exact Int32.lt_iff_toInt_lt.mpr (by rw [nI_toInt hn]; omega)
theorem nI_nm1 {n : Nat} (hn : n < 2 ^ 31) : ¬ nI n < (-1 : Int32) := by
  intro h
  have a := Int32.lt_iff_toInt_lt.mp h
  have e1 : (-1 : Int32).toInt = -1 := by decide
  rw [nI_toInt hn] at a
  omega
theorem ge_nneg {n : Nat} {z : Int32} (hn : n < 2 ^ 31) (hz : nI n ≤ z) : ¬ z < 0 := by
  intro hz2
  have a := Int32.le_iff_toInt_le.mp hz
  have b := Int32.lt_iff_toInt_lt.mp hz2
  rw [nI_toInt hn] at a
  have : (0 : Int32).toInt = 0 := by decide
  omega
theorem TR.more {tc tn tn' : Nat} {xa xc ma mc xa' xc' : Nat → Int32} {x y : Int32} (h : TR tc tn xa xc ma mc) (h8 : tc < 8000) (hL : LL tn') (hn : tc + 1 ≤ tn') (h1 : ∀ i, i < tc → xa' i = xa i) (h2 : xa' tc = x) (h3 : ∀ i, i < tc → xc' i = xc i) (h4 : xc' tc = y) (hx : x = -1 ∨ ∃ a, a < tc ∧ x = nI a) : TR (tc + 1) tn' xa' xc' (upd ma tc x) (upd mc tc y) := by
  refine ⟨h8, hn, hL, fun i hi => ?_, fun i hi => ?_⟩
  · by_cases e : i = tc
    · subst e; exact ⟨h2.trans u_s.symm, h4.trans u_s.symm⟩
    · rw [u_n e, u_n e, h1 i (by omega), h3 i (by omega)]; exact h.2.2.2.1 i (by omega)
  · by_cases e : i = tc
    · subst e; rw [h2]; exact hx
    · rw [h1 i (by omega)]; exact h.2.2.2.2 i (by omega)
theorem plant_both {F tc tn g : Nat} {xa xc ma mc : Nat → Int32} (x y : Int32) (h : TR tc tn xa xc ma mc) (hg : 5 * 8000 ≤ g + 5 * tn) :
    ∃ r tc' tn' xa' xc' g' ma' mc', pm_X6_plant F g (nI tc) tn xa tn xc x y = some (r, nI tc', tn', xa', tn', xc', g') ∧ pm_X7_plant F (nI tc) 8000 ma 8000 mc x y = some (r, nI tc', ma', mc') ∧ TR tc' tn' xa' xc' ma' mc' ∧ tn ≤ tn' ∧ g + 5 * tn ≤ g' + 5 * tn' ∧ g' ≤ g := by
  have h8 := h.1
  have e8 : (8000 : Int32) = nI 8000 := by decide
  rw [pm_X6_plant, pm_X7_plant, e8]
  by_cases hf : tc = 8000
  · subst hf
    rw [if_pos (show nI 8000 = nI 8000 from rfl)]
    refine ⟨-1, 8000, tn, xa, xc, g, ma, mc, ?_, rfl, h, Nat.le_refl _, Nat.le_refl _, Nat.le_refl _⟩
    rw [add_full, bd7_e]
    by_cases h1 : x = -1
    · rw [if_pos h1]
    · rw [if_neg h1, pm_X2_has]
      by_cases h2 : x < 0
      · rw [if_pos h2, bd1_e, if_pos rfl]
      · rw [if_neg h2]
        by_cases h3 : nI 8000 ≤ x
        · rw [if_pos h3, bd1_e, if_pos rfl]
        · rw [if_neg h3, bd1_e, if_neg (by decide)]
  · have hlt : tc < 8000 := by omega
    have ret : nI tc + (1 : Int32) - (1 : Int32) = nI tc := by rw [z_1]; exact nI_pred tc
    rw [if_neg (fun e => hf ((nI_eq (by omega) (by omega)).mp e)), ret, z_1, z_bd hlt (by omega), z_bd hlt (by omega), z_cl (show tc < 2 ^ 31 by omega)]
    obtain ⟨n', a', c', g', q1, q2, q3, q4, q5, q6, q7, q8, q9, q10⟩ := add_ok (F := F) (g := g) (c := tc) (n := tn) (ah := xa) (ce := xc) (x := x) (y := y) hlt h.2.1 h.2.2.1 hg
    rw [q1, bd7_e]
    by_cases h1 : x = -1
    · subst h1
      rw [if_pos rfl, if_neg (by decide), if_pos (m1_lt (by omega))]
      exact ⟨nI tc, tc + 1, n', a', c', g', _, _, rfl, rfl, h.more hlt q2 q4 q5 q6 q7 q8 (Or.inl rfl), q3, q9, q10⟩
    · rw [if_neg h1, pm_X2_has]
      rcases pk_ix x (show tc < 2 ^ 31 by omega) with hx | hx | ⟨j, hj, rfl⟩
      · rw [if_pos hx, bd1_e, if_pos rfl, if_pos (lt_m1 hx h1)]
        exact ⟨-1, tc, tn, xa, xc, g, ma, mc, rfl, rfl, h, Nat.le_refl _, Nat.le_refl _, Nat.le_refl _⟩
      · have hx0 := ge_nneg (show tc < 2 ^ 31 by omega) hx
        rw [if_neg hx0, if_pos hx, bd1_e, if_pos rfl, if_neg (fun hq => hx0 (Int32.lt_trans hq (by decide))), if_neg (k2_nlt hx)]
        exact ⟨-1, tc, tn, xa, xc, g, ma, mc, rfl, rfl, h, Nat.le_refl _, Nat.le_refl _, Nat.le_refl _⟩
      · rw [if_neg (nI_neg (show j < 2 ^ 31 by omega)), z_gt hj (by omega), bd1_e, if_neg (by decide), if_neg (nI_nm1 (by omega)), if_pos (nI_lt hj (by omega))]
        exact ⟨nI tc, tc + 1, n', a', c', g', _, _, rfl, rfl, h.more hlt q2 q4 q5 q6 q7 q8 (Or.inr ⟨j, hj, rfl⟩), q3, q9, q10⟩
theorem graft_both {F tc tn : Nat} {xa xc ma mc : Nat → Int32} (x y : Int32) (h : TR tc tn xa xc ma mc) :
    ∃ r xc' mc', pm_X6_graft F (nI tc) tn xc x y = some (r, xc') ∧ pm_X7_graft F (nI tc) 8000 mc x y = some (r, mc') ∧ TR tc tn xa xc' ma mc' := by
  have h8 := h.1
  have hl := LL_le h.2.2.1
  rw [pm_X6_graft, pm_X7_graft, pm_X2_has]
  rcases pk_ix x (show tc < 2 ^ 31 by omega) with hx | hx | ⟨j, hj, rfl⟩
  · rw [if_pos hx, bd1_e, if_pos rfl, if_pos hx]
    exact ⟨0, xc, mc, rfl, rfl, h⟩
  · have hx0 := ge_nneg (show tc < 2 ^ 31 by omega) hx
    rw [if_neg hx0, if_pos hx, bd1_e, if_pos rfl, if_neg hx0, if_neg (k2_nlt hx)]
    exact ⟨0, xc, mc, rfl, rfl, h⟩
  · have := h.2.1
    rw [if_neg (nI_neg (show j < 2 ^ 31 by omega)), z_gt hj (by omega), bd1_e, if_neg (by decide), z_bd (show j < tn by omega) (by omega), if_neg (nI_neg (show j < 2 ^ 31 by omega)), if_pos (nI_lt hj (by omega)), z_bd (show j < 8000 by omega) (by omega), z_cl (show j < 2 ^ 31 by omega)]
    refine ⟨1, _, _, rfl, rfl, h.1, h.2.1, h.2.2.1, fun i hi => ⟨(h.2.2.2.1 i hi).1, ?_⟩, h.2.2.2.2⟩
    by_cases e : i = j
    · subst e; rw [u_s, u_s]
    · rw [u_n e, u_n e]; exact (h.2.2.2.1 i hi).2
theorem prune_both {F tc tn : Nat} {xa xc ma mc : Nat → Int32} (x : Int32) (h : TR tc tn xa xc ma mc) :
    ∃ r tc', pm_X6_prune F (nI tc) x = some (r, nI tc') ∧ pm_X7_prune F (nI tc) x = some (r, nI tc') ∧ TR tc' tn xa xc ma mc := by
  have h8 := h.1
  rw [pm_X6_prune, pm_X7_prune]
  by_cases hx : x < 0
  · rw [if_pos hx]
    exact ⟨-1, tc, rfl, rfl, h⟩
  · rw [if_neg hx]
    by_cases h2 : x ≤ nI tc
    · rw [if_pos h2]
      obtain ⟨j, hj, e⟩ := nI_of2 (M := nI tc) (n := tc) (nI_toInt (by omega)) hx h2
      subst e
      refine ⟨nI j, j, rfl, rfl, by omega, ?_, h.2.2.1, fun i hi => h.2.2.2.1 i (by omega), fun i hi => h.2.2.2.2 i (by omega)⟩
      have := h.2.1
      omega
    · rw [if_neg h2]
      exact ⟨-1, tc, rfl, rfl, h⟩
