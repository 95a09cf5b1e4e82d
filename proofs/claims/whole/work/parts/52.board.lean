/-! PURE: stones, on both sides -/
def S3 (x : Int32) : Prop := x = 0 ∨ x = 1 ∨ x = 2
def BR (N : Nat) (xs ms : Nat → Int32) : Prop := ∀ c, c < N * N → S3 (xs c) ∧ ms c = xs c
theorem s3_of {x : Int32} (h0 : ¬ x < 0) (h2 : x ≤ 2) : S3 x := by
  have a := Int32.le_iff_toInt_le.mp h2
  have b : ¬ x.toInt < (0 : Int32).toInt := fun q => h0 (Int32.lt_iff_toInt_lt.mpr q)
  have e0 : (0 : Int32).toInt = 0 := by decide
  have e2 : (2 : Int32).toInt = 2 := by decide
  have : x.toInt = 0 ∨ x.toInt = 1 ∨ x.toInt = 2 := by omega
  rcases this with q | q | q
  · exact Or.inl (Int32.toInt_inj.mp (by rw [q, e0]))
  · exact Or.inr (Or.inl (Int32.toInt_inj.mp (by rw [q]; decide)))
  · exact Or.inr (Or.inr (Int32.toInt_inj.mp (by rw [q, e2])))
theorem s3_byte {x : Int32} (h : S3 x) : vp_nar .byte x.toInt8.toInt32 = x := by
  rcases h with rfl | rfl | rfl <;> decide
theorem put_ok {F n c : Nat} {st : Nat → Int32} {s : Int32} (hc : c < n) (hn : n < 2 ^ 31) : pm_X0_put F n st (nI c) s = some (upd st c s) := by
  rw [pm_X0_put, has_ok hc hn, bd1_e, if_neg (by decide), z_bd hc hn, z_cl (by omega)]
theorem BR.put {N c : Nat} {xs ms : Nat → Int32} {s : Int32} (h : BR N xs ms) (hs : S3 s) : BR N (upd xs c s) (upd ms c s) := by
  intro i hi
  by_cases e : i = c
  · subst e; rw [u_s, u_s]; exact ⟨hs, rfl⟩
  · rw [u_n e, u_n e]; exact h i hi
theorem set_both {F N : Nat} {xs ms : Nat → Int32} (pc x y s : Int32) (hN : N < 12) (h : BR N xs ms) :
    ∃ r pc' xs' ms', pm_X6_set F pc (nI N) (N * N) xs x y s = some (r, pc', xs') ∧ pm_X7_set F (nI N) pc 121 ms x y s = some (r, pc', ms') ∧ BR N xs' ms' ∧ ((pc' = pc ∧ xs' = xs) ∨ pc' = 0) := by
  have hn := sq_le hN
  rw [pm_X6_set, pm_X7_set, pm_X0_numberOf]
  rcases place_ok (F := F) hN x y with ⟨i, j, hi, hj, rfl, rfl, e1, e2⟩ | ⟨e1, e2⟩
  · have hc := cell_lt hj hi
    rw [e1, e2, bd1_e, bd1_e, bd1_e, if_neg (nI_m1 (by omega)), if_neg (show ¬ (1 : Int32) = 0 by decide)]
    by_cases h0 : s < 0
    · rw [if_pos h0, if_pos h0]
      exact ⟨0, pc, xs, ms, rfl, rfl, h, Or.inl ⟨rfl, rfl⟩⟩
    · rw [if_neg h0, if_neg h0]
      by_cases h2 : s ≤ 2
      · have hs := s3_of h0 h2
        rw [if_pos h2, if_pos h2, put_ok hc (by omega), bd1_e, pk_mul, nI_add, z_bd (show N * j + i < 121 by omega) (by omega), z_cl (by omega), s3_byte hs]
        exact ⟨1, 0, _, _, rfl, rfl, h.put hs, Or.inr rfl⟩
      · rw [if_neg h2, if_neg h2]
        exact ⟨0, pc, xs, ms, rfl, rfl, h, Or.inl ⟨rfl, rfl⟩⟩
  · rw [e1, e2, bd1_e, bd1_e, bd1_e, if_pos rfl, if_pos rfl]
    exact ⟨0, pc, xs, ms, rfl, rfl, h, Or.inl ⟨rfl, rfl⟩⟩
theorem turn_both {F : Nat} (pc mv x : Int32) (h : mv = 1 ∨ mv = 2) : ∃ r pc' mv', pm_X6_turn F pc mv x = some (r, pc', mv') ∧ pm_X7_turn F mv pc x = some (r, mv', pc') ∧ (mv' = 1 ∨ mv' = 2) ∧ (pc' = pc ∨ pc' = 0) := by
  rw [pm_X6_turn, pm_X7_turn, pm_X6_isSide]
  by_cases h1 : x = 1
  · subst h1
    rw [if_pos rfl, bd1_e, if_neg (by decide), if_pos rfl]
    exact ⟨1, 0, 1, rfl, rfl, Or.inl rfl, Or.inr rfl⟩
  · by_cases h2 : x = 2
    · subst h2
      rw [if_neg (by decide), if_pos rfl, bd1_e, if_neg (by decide), if_neg (by decide), if_pos rfl]
      exact ⟨1, 0, 2, rfl, rfl, Or.inr rfl, Or.inr rfl⟩
    · rw [if_neg h1, if_neg h2, bd1_e, if_pos rfl, if_neg h1, if_neg h2]
      exact ⟨0, pc, mv, rfl, rfl, h, Or.inl rfl⟩
