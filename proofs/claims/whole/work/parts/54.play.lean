/-! PURE: play and undo on both sides -/
theorem isEmpty_ok {F n c : Nat} {st : Nat → Int32} (hc : c < n) (hn : n < 2 ^ 31) : pm_X0_isEmpty F n st (nI c) = if st c = 0 then some 1 else some 0 := by
  rw [pm_X0_isEmpty, if_neg (nI_neg (show c < 2 ^ 31 by omega)), z_gt hc hn, z_bd hc hn, z_cl (by omega)]
theorem isEmpty_m1 {F n : Nat} {st : Nat → Int32} : pm_X0_isEmpty F n st (-1) = some 0 := by
  rw [pm_X0_isEmpty, if_pos (by decide)]
theorem play_both {F N pc w : Nat} {xs ms near ed m z seen wave xp mp : Nat → Int32} {mv : Int32} (x y : Int32) (hF : 200 < F) (hN : N < 12) (h0 : 0 < N) (hmv : mv = 1 ∨ mv = 2) (hnear : ∀ c, c < N * N → ∀ k, k < 6 → near (6 * c + k) = nbI N c k) (hed : ∀ c, c < N * N → ed c = edI N c) (h : BR N xs ms) (hp : PL N pc xs xp mp) :
    ∃ r pc' mv' xs' m' z' xp' w' ms' mp' seen' wave', pm_X6_play F (nI pc) mv (nI N) (N * N) xs (6 * (N * N)) near (N * N) ed (N * N) m (N * N) z (N * N) xp x y = some (r, nI pc', mv', xs', m', z', xp') ∧ pm_X7_play F (nI N) (nI (N * N)) mv (nI pc) (nI w) 121 ms 121 mp 121 seen 121 wave x y = some (r, mv', nI pc', nI w', ms', mp', seen', wave') ∧ BR N xs' ms' ∧ PL N pc' xs' xp' mp' ∧ (mv' = 1 ∨ mv' = 2) := by
  have hn := sq_le hN
  rw [pm_X6_play, pm_X7_play, pm_X0_numberOf]
  rcases place_ok (F := F) hN x y with ⟨i, j, hi, hj, rfl, rfl, e1, e2⟩ | ⟨e1, e2⟩
  · have hc := cell_lt hj hi
    rw [e1, e2, bd1_e, bd1_e, bd1_e, if_neg (show ¬ (1 : Int32) = 0 by decide), pk_mul, nI_add, z_bd (show N * j + i < 121 by omega) (by omega), z_cl (show N * j + i < 2 ^ 31 by omega), (h _ hc).2, isEmpty_ok hc (by omega)]
    by_cases hz : xs (N * j + i) = 0
    · obtain ⟨r, m', z', w', seen', wave', q1, q2, q3⟩ := winner_both (F := F) (m := m) (z := z) (seen := seen) (wave := wave) hF hN h0 hnear hed h
      rw [if_pos hz, bd1_e, if_neg (show ¬ (1 : Int32) = 0 by decide), q1, bd3_e, if_pos hz, q2, bd4_e]
      by_cases hr : r = 0
      · have hpos : 0 < cnt (em xs) (N * N) := cnt_pos hc (decide_eq_true hz)
        have hpc : pc < N * N := by have := hp.1; omega
        rw [if_pos hr, if_pos hr, if_pos (nI_lt hpc (by omega)), put_ok hc (by omega), bd1_e, z_bd hpc (by omega), pm_X6_otherSide, bd1_e, z_bd (show pc < 121 by omega) (by omega), z_1, z_cl (show pc < 2 ^ 31 by omega), s3_byte (side_s3 hmv)]
        refine ⟨1, pc + 1, 3 - mv, _, m', z', _, w', _, _, seen', wave', rfl, rfl, h.put (side_s3 hmv), ⟨?_, fun k hk => ?_⟩, other_ok hmv⟩
        · have : cnt (em xs) (N * N) = cnt (em (upd xs (N * j + i) mv)) (N * N) + 1 := by
            refine cnt_upd hc ?_ (decide_eq_true hz) ?_
            · unfold em; rw [u_s]; rcases hmv with rfl | rfl <;> decide
            · intro c _ hcc; unfold em; rw [u_n hcc]
          have := hp.1
          omega
        · by_cases e : k = pc
          · subst e; rw [u_s, u_s]; exact ⟨rfl, _, hc, rfl⟩
          · rw [u_n e, u_n e]; exact hp.2 k (by omega)
      · rw [if_neg hr, if_neg hr]
        exact ⟨0, pc, mv, xs, m', z', xp, w', ms, mp, seen', wave', rfl, rfl, h, hp, hmv⟩
    · rw [if_neg hz, bd1_e, if_pos rfl, if_neg hz]
      exact ⟨0, pc, mv, xs, m, z, xp, w, ms, mp, seen, wave, rfl, rfl, h, hp, hmv⟩
  · rw [e1, e2, bd1_e, bd1_e, bd1_e, if_pos rfl, isEmpty_m1, bd1_e, if_pos rfl]
    exact ⟨0, pc, mv, xs, m, z, xp, w, ms, mp, seen, wave, rfl, rfl, h, hp, hmv⟩
theorem undo_both {F N pc : Nat} {xs ms xp mp : Nat → Int32} {mv : Int32} (hN : N < 12) (hmv : mv = 1 ∨ mv = 2) (h : BR N xs ms) (hp : PL N pc xs xp mp) :
    ∃ r pc' mv' xs' ms', pm_X6_undo F (nI pc) mv (N * N) xs (N * N) xp = some (r, nI pc', mv', xs') ∧ pm_X7_undo F mv (nI pc) 121 ms 121 mp = some (r, mv', nI pc', ms') ∧ BR N xs' ms' ∧ PL N pc' xs' xp mp ∧ (mv' = 1 ∨ mv' = 2) := by
  have hn := sq_le hN
  have hple : pc ≤ N * N := by have := hp.1; omega
  rw [pm_X6_undo, pm_X7_undo]
  cases pc with
  | zero =>
    rw [if_neg (show ¬ (0 : Int32) < nI 0 by rw [nI_0]; decide), if_pos nI_0]
    exact ⟨-1, 0, mv, xs, ms, rfl, rfl, h, hp, hmv⟩
  | succ p =>
    obtain ⟨e1, c, hc, e2⟩ := hp.2 p (Nat.lt_succ_self p)
    have hpos : (0 : Int32) < nI (p + 1) := by
      have := nI_lt (show 0 < p + 1 by omega) (show p + 1 < 2 ^ 31 by omega)
      rwa [nI_0] at this
    rw [if_pos hpos, if_neg (nI_ne0 (by omega) (by omega)), nI_pred, z_bd (show p < N * N by omega) (by omega), z_bd (show p < 121 by omega) (by omega), z_cl (show p < 2 ^ 31 by omega), ← e1, e2, put_ok hc (by omega), bd1_e, pm_X6_otherSide, bd1_e, z_bd (show c < 121 by omega) (by omega), z_cl (show c < 2 ^ 31 by omega), show vp_nar .byte (0 : Int32) = 0 from by decide]
    refine ⟨nI c, p, 3 - mv, _, _, rfl, rfl, h.put (Or.inl rfl), ⟨?_, fun k hk => hp.2 k (by omega)⟩, other_ok hmv⟩
    have hle : cnt (em (upd xs c 0)) (N * N) ≤ cnt (em xs) (N * N) + 1 := by
      by_cases hz : xs c = 0
      · rw [cnt_congr (N * N) (q := em xs) (fun k hk => by
          unfold em
          by_cases e : k = c
          · subst e; rw [u_s, hz]
          · rw [u_n e])]
        omega
      · have := cnt_upd (p := em xs) (q := em (upd xs c 0)) hc (decide_eq_false hz) (by unfold em; rw [u_s]; decide) (fun k _ hk => by unfold em; rw [u_n hk])
        omega
    have := hp.1
    omega
