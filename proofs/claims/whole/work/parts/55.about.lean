/-! PURE: about on both sides -/
theorem about_both {F N w : Nat} {xs ms near ed m z seen wave : Nat → Int32} (pc mv nc ec tc x : Int32) (hF : 200 < F) (hN : N < 12) (h0 : 0 < N) (hnear : ∀ c, c < N * N → ∀ k, k < 6 → near (6 * c + k) = nbI N c k) (hed : ∀ c, c < N * N → ed c = edI N c) (h : BR N xs ms) :
    ∃ r m' z' w' seen' wave', pm_X6_about F pc mv (nI N) (N * N) xs (6 * (N * N)) near (N * N) ed (N * N) m (N * N) z nc ec tc x = some (r, m', z') ∧ pm_X7_about F (nI N) (nI (N * N)) mv pc nc ec tc (nI w) 121 ms 121 seen 121 wave x = some (r, nI w', seen', wave') := by
  have hn := sq_le hN
  have he : ∀ i, i < N * N → ms i = xs i := fun i hi => (h i hi).2
  rw [pm_X6_about, pm_X7_about]
  by_cases c0 : x = 0
  · rw [if_pos c0, if_pos c0]; exact ⟨_, m, z, w, seen, wave, rfl, rfl⟩
  rw [if_neg c0, if_neg c0]
  by_cases c1 : x = 1
  · rw [if_pos c1, if_pos c1]; exact ⟨_, m, z, w, seen, wave, rfl, rfl⟩
  rw [if_neg c1, if_neg c1]
  by_cases c2 : x = 2
  · rw [if_pos c2, if_pos c2]; exact ⟨_, m, z, w, seen, wave, rfl, rfl⟩
  rw [if_neg c2, if_neg c2]
  by_cases c3 : x = 3
  · obtain ⟨r, m', z', w', seen', wave', q1, q2, -⟩ := winner_both (F := F) (m := m) (z := z) (seen := seen) (wave := wave) hF hN h0 hnear hed h
    rw [if_pos c3, if_pos c3, q1, q2, bd3_e, bd4_e]
    exact ⟨r, m', z', w', seen', wave', rfl, rfl⟩
  rw [if_neg c3, if_neg c3]
  by_cases c4 : x = 4
  · rw [if_pos c4, if_pos c4, countEmpty_ok (by omega) (by omega), empty_ok (by omega) (by omega) (by omega), bd1_e, bd1_e, cnt_em he]
    exact ⟨_, m, z, w, seen, wave, rfl, rfl⟩
  rw [if_neg c4, if_neg c4]
  by_cases c5 : x = 5
  · obtain ⟨m', z', q1⟩ := countChains_ok (F := F) (st := xs) (m := m) (z := z) hF hN hnear
    obtain ⟨w', seen', wave', q2⟩ := chains_ok (F := F) (st := ms) (w := w) (seen := seen) (wave := wave) hF hN
    rw [if_pos c5, if_pos c5, q1, q2, bd3_e, bd4_e, cnt_ld hN he]
    exact ⟨_, m', z', w', seen', wave', rfl, rfl⟩
  rw [if_neg c5, if_neg c5]
  by_cases c6 : x = 6
  · rw [if_pos c6, if_pos c6]; exact ⟨_, m, z, w, seen, wave, rfl, rfl⟩
  rw [if_neg c6, if_neg c6]
  by_cases c7 : x = 7
  · rw [if_pos c7, if_pos c7]; exact ⟨_, m, z, w, seen, wave, rfl, rfl⟩
  rw [if_neg c7, if_neg c7]
  by_cases c8 : x = 8
  · rw [if_pos c8, if_pos c8]; exact ⟨_, m, z, w, seen, wave, rfl, rfl⟩
  rw [if_neg c8, if_neg c8]
  exact ⟨_, m, z, w, seen, wave, rfl, rfl⟩
