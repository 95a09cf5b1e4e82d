/-! PURE: check, on both sides -/
theorem L185_eq {F nb nt nbe nw : Nat} {tc be w2 : Nat → Int32} {x4 x5 : Int32} : ∀ k (a b c : Int32) (d : Nat → Int32), pm_X7_check_L185_5 F nb nt tc nbe nw be x4 x5 w2 k a b c d = pm_X7_check_L185_2 F nb nt tc nbe nw be x4 x5 w2 k a b c d := by
  intro k
  induction k with
  | zero => intros; rfl
  | succ k ih =>
    intro a b c d
    rw [pm_X7_check_L185_5, pm_X7_check_L185_2]
    simp only [ih]
theorem L66_eq {F nb nt ns nw nh nbe nw2 : Nat} {s c x1 : Int32} {tc he be : Nat → Int32} : ∀ k (a1 a2 a3 a4 a5 : Int32) (b1 b2 b3 b4 : Nat → Int32), pm_X7_check_L66_1 F s c nb nt tc ns nw nh nbe nw2 x1 he be k a1 a2 a3 a4 a5 b1 b2 b3 b4 = pm_X7_check_L66 F s c nb nt tc ns nw nh nbe nw2 x1 he be k a1 a2 a3 a4 a5 b1 b2 b3 b4 := by
  intro k
  induction k with
  | zero => intros; rfl
  | succ k ih =>
    intro a1 a2 a3 a4 a5 b1 b2 b3 b4
    rw [pm_X7_check_L66_1, pm_X7_check_L66]
    simp only [ih, L185_eq]
theorem L243_eq {F nb nt nw2 : Nat} {tc w2 : Nat → Int32} : ∀ k (a : Int32) (b : Nat → Int32), pm_X7_check_L243_1 F nb nt tc nw2 w2 k a b = pm_X7_check_L243 F nb nt tc nw2 w2 k a b := by
  intro k
  induction k with
  | zero => intros; rfl
  | succ k ih =>
    intro a b
    rw [pm_X7_check_L243_1, pm_X7_check_L243]
    simp only [ih]
theorem restore_L {F N tc : Nat} {mc base w2 : Nat → Int32} (hN : N < 12) (h8 : tc ≤ 8000) : ∀ (l : List Nat) k (st : Nat → Int32), l.length < k → PI N tc mc base l st → WV w2 l → ∃ st', pm_X7_check_L243 F 121 8000 mc 122 w2 k (nI l.length) st = some st' ∧ ∀ c, c < N * N → st' c = base c := by
  have hn := sq_le hN
  intro l
  induction l with
  | nil =>
    intro k st hk hI hW
    obtain ⟨k', rfl⟩ : ∃ k', k = k' + 1 := ⟨k - 1, by have : 0 < k := hk; omega⟩
    exact ⟨st, by rw [pm_X7_check_L243, if_pos (show nI ([] : List Nat).length ≤ 0 by show nI 0 ≤ 0; rw [nI_0]; decide)], hI⟩
  | cons q l ih =>
    intro k st hk hI hW
    have hlen := hI.len
    have hlen2 : l.length + 1 + cnt (em st) (N * N) ≤ N * N := hlen
    obtain ⟨hq, c, hc, h2, h3, h4, h5⟩ := hI
    obtain ⟨hW1, hW2⟩ := hW
    obtain ⟨k', rfl⟩ : ∃ k', k = k' + 1 := ⟨k - 1, by omega⟩
    rw [pm_X7_check_L243, show nI (q :: l).length = nI (l.length + 1) from rfl, if_neg (nI_nle (Nat.succ_pos _) (show l.length + 1 < 2 ^ 31 by omega)), pk_m1, z_bd (show l.length < 122 by omega) (by omega), z_cl (show l.length < 2 ^ 31 by omega), hW1, z_bd (show q < 8000 by omega) (by omega), z_cl (show q < 2 ^ 31 by omega), h2, z_bd (show c < 121 by omega) (by omega), z_cl (show c < 2 ^ 31 by omega), show vp_nar .byte (0 : Int32) = 0 from by decide]
    exact ih k' _ (by have : l.length + 1 < k' + 1 := hk; omega) h5 hW2
theorem copy_ok {F n : Nat} {v p : Nat → Int32} (hn : n < 2 ^ 31) : pm_X0_copyStones F n v n p = some (va_cpy p v 0 0 n) := by
  have e0 : (0 : Int32).toNatClampNeg = 0 := by decide
  have e1 : (if nI n < nI n then nI n else nI n) = nI n := by split <;> rfl
  rw [pm_X0_copyStones, e1, z_cl hn, e0, if_neg (by
    rintro (h1 | h1 | h1 | h1 | h1)
    · exact absurd h1 (by decide)
    · exact absurd h1 (by decide)
    · exact nI_neg (by omega) h1
    · omega
    · omega)]
/-- the reference's check behind its guards -/
def refC (F : Nat) (v_size v_cells v_turn v_planted v_waves : Int32) (v_board v_treeAhead v_treeCell v_seen v_wave v_heir v_beside v_wave2 : Nat → Int32) (x1 : Int32) : Option (Int32 × Int32 × (Nat → Int32) × (Nat → Int32) × (Nat → Int32) × (Nat → Int32) × (Nat → Int32) × (Nat → Int32)) :=
  bd2 (pm_X7_link F v_planted 8000 v_treeAhead 8001 v_heir 8000 v_beside) fun v_heir_5 v_beside_6 =>
  bd1 (
  if v_turn = x1 then
  some (1 : Int32)
  else
  some (0 : Int32)) fun s2_7 =>
  bd4 (pm_X7_wrongBehind F v_cells v_waves 121 v_board 8000 v_treeCell 121 v_seen 121 v_wave 8001 v_heir_5 8000 v_beside_6 (0 : Int32) s2_7) fun r_9 v_waves_10 v_seen_11 v_wave_12 =>
  bd1 (
  if r_9 = 0 then
  if (0 : Int32) < 0 ∨ 8001 ≤ (0 : Int32).toNatClampNeg then none else
  some (v_heir_5 (0 : Int32).toNatClampNeg)
  else
  some (-1 : Int32)) fun s0_13 =>
  bd7 (
  pm_X7_check_L66 F v_size v_cells 121 8000 v_treeCell 121 121 8001 8000 122 x1 v_heir_5 v_beside_6 F v_turn r_9 s0_13 (0 : Int32) v_waves_10 v_board v_seen_11 v_wave_12 v_wave2) fun x3_15 x5_16 v_waves_17 v_board_18 v_seen_19 v_wave_20 v_wave2_21 =>
  bd1 (
  pm_X7_check_L243 F 121 8000 v_treeCell 122 v_wave2_21 F x5_16 v_board_18) fun v_board_23 =>
  some (x3_15, v_waves_17, v_board_23, v_seen_19, v_wave_20, v_heir_5, v_beside_6, v_wave2_21)
theorem refC_1 {F : Nat} {a b c d e : Int32} {v1 v2 v3 v4 v5 v6 v7 v8 : Nat → Int32} {x : Int32} (hx : x = 1 ∨ x = 2) {r w : Int32} {s v : Nat → Int32} (hw : pm_X7_winner F a b 121 v1 121 v4 121 v5 = some (r, w, s, v)) : pm_X7_check F a b c d e 121 v1 8000 v2 8000 v3 121 v4 121 v5 8001 v6 8000 v7 122 v8 x = if r = 0 then refC F a b c d w v1 v2 v3 s v v6 v7 v8 x else some (-1, w, v1, s, v, v6, v7, v8) := by
  rw [pm_X7_check, hw]
  rcases hx with rfl | rfl
  · rw [if_pos rfl, bd4_e]
    rfl
  · rw [if_neg (by decide), if_pos rfl, bd4_e]
    simp only [L66_eq, L243_eq]
    rfl
theorem core_both {F g N tc tn nn : Nat} {xs ms near ed m z xa xc ma mc bh ne he be seen wave wave2 : Nat → Int32} (sd' mv wv : Int32) (hF : 9000 < F) (hN : N < 12) (h0 : 0 < N) (hmv : mv = 1 ∨ mv = 2) (hsd : sd' = 1 ∨ sd' = 2) (hnear : ∀ c, c < N * N → ∀ k, k < 6 → near (6 * c + k) = nbI N c k) (hed : ∀ c, c < N * N → ed c = edI N c) (hT : TR tc tn xa xc ma mc) (hL : LL nn) (hg : 5 * 8000 ≤ g + 5 * nn) (hB : BR N xs ms) (hW : NW N ms) :
    ∃ r s' mv' xs' m' z' nn' bh' ne' g' wv' ms' seen' wave' he' be' wave2', pm_X1_judge F g (N * N) xs (6 * (N * N)) near (N * N) ed (N * N) m (N * N) z (nI tc) tn xa tn xc (nn + 1) bh nn ne sd' mv = some (r, s', mv', xs', m', z', nn' + 1, bh', nn', ne', g') ∧ refC F (nI N) (nI (N * N)) mv (nI tc) wv ms ma mc seen wave he be wave2 sd' = some (r, wv', ms', seen', wave', he', be', wave2') ∧ (∀ c, c < N * N → ms' c = ms c) ∧ LL nn' ∧ g + 5 * nn ≤ g' + 5 * nn' ∧ g' ≤ g := by
  have hn := sq_le hN
  have h8 := hT.1
  have htn := hT.2.1
  have htn2 := (LL_le hT.2.2.1).2
  obtain ⟨nn', bh', ne', he', be', g', k1, k2, k3, k4, k5, k6, k7, k8, k9⟩ := link_both (F := F) (g := g) (bh := bh) (ne := ne) (he := he) (be := be) hF hT hL hg
  have hnn2 := (LL_le k3).2
  have hl : NB tc xc mc ne' be' := fun i hi => ⟨((hT.2.2.2.1 i hi).2).symm, k9 i hi, by
    rcases k7.2 i hi with q | ⟨j, j1, j2, j3, j4⟩
    · exact Or.inl q
    · exact Or.inr ⟨j, j1, j2, j3⟩⟩
  obtain ⟨o, ho1, ho2⟩ : ∃ o : Int32, (if mv = sd' then some (1 : Int32) else some 0) = some o ∧ ((mv = sd' ∧ o = 1) ∨ (¬ mv = sd' ∧ o = 0)) := by
    by_cases q : mv = sd'
    · exact ⟨1, if_pos q, Or.inl ⟨q, rfl⟩⟩
    · exact ⟨0, if_neg q, Or.inr ⟨q, rfl⟩⟩
  have em1 : (-1 : Int32) + 1 = nI 0 := by rw [nI_0]; decide
  have et0 : (0 : Int32).toNatClampNeg = 0 := by decide
  obtain ⟨r, m1, w1, seen1, wave1, p1, p2, rk, p3, p4⟩ := wb_both (F := F) (m := m) (seen := seen) (wave := wave) sd' mv o (-1) wv hF hN hB h8 htn htn2 k4 hnn2 hl k7 k8 (Nat.zero_le _) em1 ho2
  rw [show nI 0 = (0 : Int32) from nI_0] at p2
  obtain ⟨F', rfl⟩ : ∃ F', F = F' + 1 := ⟨F - 1, by omega⟩
  unfold refC
  rw [pm_X1_judge, k1, k2, bd5_e, bd2_e, p1, bd2_e, ho1, bd1_e, p2, bd4_e, z_b0 (Nat.succ_pos _), z_b0 (by omega), et0, k8 0 (Nat.zero_le _)]
  by_cases hr : r = 0
  · subst hr
    rw [if_pos rfl, bd1_e]
    rcases k7.1 0 (Nat.zero_le _) with q | ⟨h, h1, h2, h3⟩
    · rw [q]
      have c1 : pm_X1_judge_L34 (F' + 1) (N * N) (6 * (N * N)) near (N * N) ed (N * N) (N * N) tn xa tn xc sd' (nn' + 1) bh' nn' ne' (F' + 1) (-1) 0 (-1) 0 mv xs m1 z = some (-1, 0, mv, xs, m1, z) := by
        rw [pm_X1_judge_L34, if_pos (show (0 : Int32) = 0 from rfl), if_pos (show (-1 : Int32) = -1 from rfl)]
        split <;> rfl
      have c2 : pm_X7_check_L66 (F' + 1) (nI N) (nI (N * N)) 121 8000 mc 121 121 8001 8000 122 sd' he' be' (F' + 1) mv 0 (-1) 0 w1 ms seen1 wave1 wave2 = some (0, 0, w1, ms, seen1, wave1, wave2) := by
        rw [pm_X7_check_L66, if_pos (show (-1 : Int32) < 0 by decide)]
      rw [c1, c2, bd6_e, bd7_e, pm_X7_check_L243, if_pos (show (0 : Int32) ≤ 0 by decide), bd1_e, if_pos rfl]
      exact ⟨0, sd', mv, xs, m1, z, nn', bh', ne', g', w1, ms, seen1, wave1, he', be', wave2, rfl, rfl, fun _ _ => rfl, k3, k5, k6⟩
    · have hxa : xa h = -1 := by rw [← em1] at h3; exact add1_inj h3
      obtain ⟨en', wr, mv', xs', m', z', told, l', wv', ms', seen', wave', wave2', q1, q2, q3, q4, q5⟩ := judge_L (F := F' + 1) (base := ms) sd' hF hN h0 hsd hnear hed hT k4 hnn2 hl k7 k8 (F' + 1) 0 h [] (fun _ => False) (-1) mv w1 xs ms m1 z seen1 wave1 wave2 h1 (by omega) ⟨fun q => q, fun _ _ q => q.elim, fun _ _ _ _ _ _ q => q, fun a ha => by cases ha⟩ (cnt_none _ (fun j hj => cl_f (fun q => q))) hxa trivial (fun _ _ => rfl) hW hB hmv
      rw [show nI 0 = (0 : Int32) from nI_0] at q1
      rw [show nI ([] : List Nat).length = (0 : Int32) from nI_0] at q2
      have hlen := q3.len
      obtain ⟨ms2, s1, s2⟩ := restore_L (F := F' + 1) hN h8 l' (F' + 1) ms' (by omega) q3 q4
      rw [h2, q1, q2, bd6_e, bd7_e, s1, bd1_e, q5]
      by_cases hw : wr = 0
      · rw [if_pos hw, if_pos hw]
        exact ⟨_, _, _, _, _, _, nn', _, _, g', _, _, _, _, _, _, _, rfl, rfl, s2, k3, k5, k6⟩
      · rw [if_neg hw, if_neg hw]
        exact ⟨_, _, _, _, _, _, nn', _, _, g', _, _, _, _, _, _, _, rfl, rfl, s2, k3, k5, k6⟩
  · rw [if_neg hr, bd1_e]
    have c1 : pm_X1_judge_L34 (F' + 1) (N * N) (6 * (N * N)) near (N * N) ed (N * N) (N * N) tn xa tn xc sd' (nn' + 1) bh' nn' ne' (F' + 1) (-1) r (bh' 0) 0 mv xs m1 z = some (-1, r, mv, xs, m1, z) := by
      rw [pm_X1_judge_L34, if_neg hr]
      split <;> rfl
    have c2 : pm_X7_check_L66 (F' + 1) (nI N) (nI (N * N)) 121 8000 mc 121 121 8001 8000 122 sd' he' be' (F' + 1) mv r (-1) 0 w1 ms seen1 wave1 wave2 = some (r, 0, w1, ms, seen1, wave1, wave2) := by
      rw [pm_X7_check_L66, if_pos (show (-1 : Int32) < 0 by decide)]
    have e16 : r + 16 * ((-1 : Int32) + 1) = r := by grind
    rw [c1, c2, bd6_e, bd7_e, pm_X7_check_L243, if_pos (show (0 : Int32) ≤ 0 by decide), bd1_e, if_neg hr, e16]
    exact ⟨r, sd', mv, xs, m1, z, nn', bh', ne', g', w1, ms, seen1, wave1, he', be', wave2, rfl, rfl, fun _ _ => rfl, k3, k5, k6⟩
theorem check_both {F g N tc tn nn : Nat} {xs ms near ed m z bs bnear bed bm bz xa xc ma mc bh ne he be seen wave wave2 : Nat → Int32} (mv wv cs cm x : Int32) (hF : 9000 < F) (hN : N < 12) (h0 : 0 < N) (hmv : mv = 1 ∨ mv = 2) (hnear : ∀ c, c < N * N → ∀ k, k < 6 → near (6 * c + k) = nbI N c k) (hed : ∀ c, c < N * N → ed c = edI N c) (hbnear : ∀ c, c < N * N → ∀ k, k < 6 → bnear (6 * c + k) = nbI N c k) (hbed : ∀ c, c < N * N → bed c = edI N c) (hT : TR tc tn xa xc ma mc) (hL : LL nn) (hg : 5 * 8000 ≤ g + 5 * nn) (hB : BR N xs ms) :
    ∃ r m' z' bs' bm' bz' cs' cm' nn' bh' ne' g' wv' ms' seen' wave' he' be' wave2', pm_X6_check F g mv (N * N) xs (6 * (N * N)) near (N * N) ed (N * N) m (N * N) z (N * N) bs (6 * (N * N)) bnear (N * N) bed (N * N) bm (N * N) bz (nI tc) tn xa tn xc cs cm (nn + 1) bh nn ne x = some (r, m', z', bs', bm', bz', cs', cm', nn' + 1, bh', nn', ne', g') ∧ pm_X7_check F (nI N) (nI (N * N)) mv (nI tc) wv 121 ms 8000 ma 8000 mc 121 seen 121 wave 8001 he 8000 be 122 wave2 x = some (r, wv', ms', seen', wave', he', be', wave2') ∧ BR N xs ms' ∧ LL nn' ∧ g + 5 * nn ≤ g' + 5 * nn' ∧ g' ≤ g := by
  have hn := sq_le hN
  by_cases hx : x = 1 ∨ x = 2
  · obtain ⟨r, m', z', w', seen', wave', q1, q2, q3⟩ := winner_both (F := F) (m := m) (z := z) (seen := seen) (wave := wave) (by omega) hN h0 hnear hed hB
    have es : pm_X6_isSide F x = some 1 := by
      rw [pm_X6_isSide]
      rcases hx with rfl | rfl
      · rw [if_pos rfl]
      · rw [if_neg (by decide), if_pos rfl]
    rw [refC_1 hx q2, pm_X6_check, es, bd1_e, if_neg (show ¬ (1 : Int32) = 0 by decide), q1, bd3_e]
    by_cases hr : r = 0
    · have hNW : NW N ms := by
        have : NW N xs := by
          rcases q3 with ⟨a, b⟩ | ⟨a, b, c⟩ | ⟨a, b, c⟩
          · rw [hr] at a; exact absurd a (by decide)
          · rw [hr] at a; exact absurd a (by decide)
          · exact ⟨b, c⟩
        exact this.congr hN (fun i hi => (hB i hi).2)
      have hB2 : BR N (va_cpy xs bs 0 0 (N * N)) ms := fun c hc => by rw [cpy_lo hc]; exact hB c hc
      obtain ⟨r', s', mv', xs', m2, z2, nn', bh', ne', g', wv', ms', seen2, wave2', he', be', w2', p1, p2, p3, p4, p5, p6⟩ := core_both (F := F) (g := g) (m := bm) (z := bz) (bh := bh) (ne := ne) (he := he) (be := be) (seen := seen') (wave := wave') (wave2 := wave2) x mv (nI w') hF hN h0 hmv hx hbnear hbed hT hL hg hB2 hNW
      rw [if_pos hr, if_pos hr, copy_ok (by omega), bd1_e, p1, bd11_e, p2]
      exact ⟨_, _, _, _, _, _, _, _, nn', _, _, g', _, _, _, _, _, _, _, rfl, rfl, fun c hc => ⟨(hB c hc).1, (p3 c hc).trans (hB c hc).2⟩, p4, p5, p6⟩
    · rw [if_neg hr, if_neg hr]
      exact ⟨_, _, _, _, _, _, _, _, nn, _, _, g, _, _, _, _, _, _, _, rfl, rfl, hB, hL, Nat.le_refl _, Nat.le_refl _⟩
  · have n1 : ¬ x = 1 := fun q => hx (Or.inl q)
    have n2 : ¬ x = 2 := fun q => hx (Or.inr q)
    rw [pm_X6_check, pm_X6_isSide, if_neg n1, if_neg n2, bd1_e, if_pos rfl, pm_X7_check, if_neg n1, if_neg n2]
    exact ⟨_, _, _, _, _, _, _, _, nn, _, _, g, _, _, _, _, _, _, _, rfl, rfl, hB, hL, Nat.le_refl _, Nat.le_refl _⟩
