/-! PURE: cell, chain, play, undo on both sides -/
theorem cell_both {F N : Nat} {xs ms : Nat → Int32} (x y : Int32) (hN : N < 12) (h : BR N xs ms) : ∃ r, pm_X6_cell F (nI N) (N * N) xs x y = some r ∧ pm_X7_cell F (nI N) 121 ms x y = some r := by
  have hn := sq_le hN
  rw [pm_X6_cell, pm_X7_cell, pm_X0_numberOf]
  rcases place_ok (F := F) hN x y with ⟨i, j, hi, hj, rfl, rfl, e1, e2⟩ | ⟨e1, e2⟩
  · have hc := cell_lt hj hi
    rw [e1, e2, bd1_e, bd1_e, bd1_e, if_neg (nI_m1 (by omega)), if_neg (show ¬ (1 : Int32) = 0 by decide), pk_mul, nI_add, z_bd (show N * j + i < 121 by omega) (by omega), z_cl (show N * j + i < 2 ^ 31 by omega), (h _ hc).2, pm_X0_stoneAt, has_ok hc (by omega), bd1_e, if_neg (show ¬ (1 : Int32) = 0 by decide), z_bd hc (by omega), z_cl (show N * j + i < 2 ^ 31 by omega), bd1_e]
    exact ⟨_, rfl, rfl⟩
  · rw [e1, e2, bd1_e, bd1_e, bd1_e, if_pos rfl, if_pos rfl]
    exact ⟨-1, rfl, rfl⟩
theorem chainName_m1 {F n k : Nat} {st near m z : Nat → Int32} : pm_X0_chainName F n st k near n m n z (-1) = some (-1, m, z) := by
  rw [pm_X0_chainName, has_m1, bd1_e, if_pos rfl]
theorem chainName_0 {F N a : Nat} {st near m z : Nat → Int32} (hN : N < 12) (ha : a < N * N) (hs : st a = 0) : pm_X0_chainName F (N * N) st (6 * (N * N)) near (N * N) m (N * N) z (nI a) = some (-1, m, z) := by
  have hn := sq_le hN
  rw [pm_X0_chainName, has_ok ha (by omega), bd1_e, if_neg (by decide), z_bd ha (by omega), z_cl (show a < 2 ^ 31 by omega), if_pos hs]
theorem chain_both {F N w : Nat} {xs ms near m z seen wave : Nat → Int32} (x y : Int32) (hF : 200 < F) (hN : N < 12) (hnear : ∀ c, c < N * N → ∀ k, k < 6 → near (6 * c + k) = nbI N c k) (h : BR N xs ms) :
    ∃ r m' z' w' seen' wave', pm_X6_chain F (nI N) (N * N) xs (6 * (N * N)) near (N * N) m (N * N) z x y = some (r, m', z') ∧ pm_X7_chain F (nI N) (nI w) 121 ms 121 seen 121 wave x y = some (r, nI w', seen', wave') := by
  have hn := sq_le hN
  rw [pm_X6_chain, pm_X7_chain, pm_X0_numberOf]
  rcases place_ok (F := F) hN x y with ⟨i, j, hi, hj, rfl, rfl, e1, e2⟩ | ⟨e1, e2⟩
  · have hc := cell_lt hj hi
    rw [e1, e2, bd1_e, bd1_e, bd1_e, if_neg (show ¬ (1 : Int32) = 0 by decide), pk_mul, nI_add, z_bd (show N * j + i < 121 by omega) (by omega), z_cl (show N * j + i < 2 ^ 31 by omega), (h _ hc).2]
    by_cases h0 : xs (N * j + i) = 0
    · rw [if_pos h0, chainName_0 hN hc h0, bd3_e]
      exact ⟨-1, m, z, w, seen, wave, rfl, rfl⟩
    · obtain ⟨d1, m', z', q1, q2⟩ := chainName_ok (F := F) (st := xs) (m := m) (z := z) hF hN hc h0 hnear
      obtain ⟨d2, w', seen', wave', r1, r2⟩ := nameOf_ok (F := F) (st := ms) (seen := seen) (wave := wave) hF hN hc
      have e := q2.uniq (r2.congr hN hc (fun i hi => ((h i hi).2).symm))
      subst e
      rw [if_neg h0, q1, bd3_e, r1, bd4_e]
      exact ⟨_, m', z', w', seen', wave', rfl, rfl⟩
  · rw [e1, e2, bd1_e, bd1_e, bd1_e, if_pos rfl, chainName_m1, bd3_e]
    exact ⟨-1, m, z, w, seen, wave, rfl, rfl⟩
/-- plays, on both sides -/
def PL (N pc : Nat) (xs xp mp : Nat → Int32) : Prop := pc + cnt (em xs) (N * N) ≤ N * N ∧ ∀ i, i < pc → xp i = mp i ∧ ∃ c, c < N * N ∧ xp i = nI c
theorem other_ok {s : Int32} (h : s = 1 ∨ s = 2) : (3 : Int32) - s = 1 ∨ (3 : Int32) - s = 2 := by
  rcases h with rfl | rfl
  · exact Or.inr (by decide)
  · exact Or.inl (by decide)
theorem side_s3 {s : Int32} (h : s = 1 ∨ s = 2) : S3 s := by
  rcases h with rfl | rfl
  · exact Or.inr (Or.inl rfl)
  · exact Or.inr (Or.inr rfl)
theorem winner_both {F N : Nat} {xs ms near ed m z seen wave : Nat → Int32} (hF : 200 < F) (hN : N < 12) (h0 : 0 < N) (hnear : ∀ c, c < N * N → ∀ k, k < 6 → near (6 * c + k) = nbI N c k) (hed : ∀ c, c < N * N → ed c = edI N c) (h : BR N xs ms) :
    ∃ r m' z' w' seen' wave', pm_X0_winner F (N * N) xs (6 * (N * N)) near (N * N) ed (N * N) m (N * N) z = some (r, m', z') ∧ pm_X7_winner F (nI N) (nI (N * N)) 121 ms 121 seen 121 wave = some (r, nI w', seen', wave') ∧ ((r = 1 ∧ Won N xs 1) ∨ (r = 2 ∧ ¬ Won N xs 1 ∧ Won N xs 2) ∨ (r = 0 ∧ ¬ Won N xs 1 ∧ ¬ Won N xs 2)) := by
  obtain ⟨r1, m', z', q1, q2⟩ := winner_ok (F := F) (st := xs) (m := m) (z := z) hF hN hnear hed
  obtain ⟨r2, w', seen', wave', p1, p2⟩ := mwinner_ok (F := F) (st := ms) (seen := seen) (wave := wave) hF hN h0
  have hw : ∀ s, Won N ms s ↔ Won N xs s := fun s => won_iff hN (fun i hi => (h i hi).2)
  rw [hw 1, hw 2] at p2
  have e : r2 = r1 := by
    rcases q2 with ⟨a, b⟩ | ⟨a, b, c⟩ | ⟨a, b, c⟩ <;> rcases p2 with ⟨a', b'⟩ | ⟨a', b', c'⟩ | ⟨a', b', c'⟩ <;> first | (rw [a, a']; done) | (exact absurd b b') | (exact absurd b' b) | (exact absurd c c') | (exact absurd c' c)
  subst e
  exact ⟨r2, m', z', w', seen', wave', q1, p1, q2⟩
