/-! PURE: what lies behind an entry, on both sides -/
theorem free_both {F N : Nat} {xs ms : Nat → Int32} (x : Int32) (hN : N < 12) (h : BR N xs ms) : (∃ c, c < N * N ∧ x = nI c ∧ xs c = 0 ∧ pm_X0_isEmpty F (N * N) xs x = some 1 ∧ pm_X7_isFree F (nI (N * N)) 121 ms x = some 1) ∨ (pm_X0_isEmpty F (N * N) xs x = some 0 ∧ pm_X7_isFree F (nI (N * N)) 121 ms x = some 0) := by
  have hn := sq_le hN
  rw [pm_X0_isEmpty, pm_X7_isFree]
  rcases pk_ix x (show N * N < 2 ^ 31 by omega) with hx | hx | ⟨c, hc, rfl⟩
  · exact Or.inr ⟨if_pos hx, if_pos hx⟩
  · have hx0 := ge_nneg (show N * N < 2 ^ 31 by omega) hx
    rw [if_neg hx0, if_pos hx, if_neg hx0, if_pos hx]
    exact Or.inr ⟨rfl, rfl⟩
  · rw [if_neg (nI_neg (show c < 2 ^ 31 by omega)), if_neg (nI_neg (show c < 2 ^ 31 by omega)), z_gt hc (by omega), z_gt hc (by omega), z_bd hc (by omega), z_bd (show c < 121 by omega) (by omega), z_cl (show c < 2 ^ 31 by omega), (h c hc).2]
    by_cases h0 : xs c = 0
    · rw [if_pos h0]
      exact Or.inl ⟨c, hc, rfl, h0, rfl, rfl⟩
    · rw [if_neg h0]
      exact Or.inr ⟨rfl, rfl⟩
theorem reach_new {F c w : Nat} {seen wave : Nat → Int32} (hc : c < 121) (hw : w < 121) (h : seen c = 0) : pm_X7_reach F (nI w) 121 seen 121 wave (nI c) = some (nI (w + 1), upd seen c 1, upd wave w (nI c)) := by
  rw [pm_X7_reach, z_bd hc (by omega), z_cl (show c < 2 ^ 31 by omega), if_pos h, z_bd hw (by omega), z_1, z_cl (show w < 2 ^ 31 by omega), show vp_nar .boolean (1 : Int32) = 1 from rfl]
theorem m1_add (a b : Nat) : nI a - nI b + (-1 : Int32) = nI a - nI (b + 1) := by
  rw [← z_1]
  grind
theorem sub_0 {a b : Nat} (ha : a < 2 ^ 31) (hb : b < 2 ^ 31) : nI a - nI b = 0 ↔ b = a := by
  constructor
  · intro h
    have : nI b = nI a := by grind
    exact (nI_eq hb ha).mp this
  · intro h
    rw [h]
    grind
def NB (tc : Nat) (xc mc ne be : Nat → Int32) : Prop := ∀ i, i < tc → mc i = xc i ∧ be i = ne i ∧ (ne i = -1 ∨ ∃ j, i < j ∧ j < tc ∧ ne i = nI j)
theorem covers_L {F N tc tn nn : Nat} {xs ms xc mc ne be : Nat → Int32} (hF : 200 < F) (hN : N < 12) (hB : BR N xs ms) (h8 : tc ≤ 8000) (htn : tc ≤ tn) (htn2 : tn ≤ 8000) (hnn : tc ≤ nn) (hnn2 : nn ≤ 8000) (hl : NB tc xc mc ne be) :
    ∀ k cv (t : Int32) (m seen wave : Nat → Int32), (t = -1 ∨ ∃ i, i < tc ∧ t = nI i ∧ cv ≤ i) → cv ≤ tc → tc + 2 < cv + k → (∀ c, c < N * N → (m c = 0 ↔ seen c = 0)) → cv + cnt (sn seen) (N * N) = N * N →
    ∃ r m' x4 x5 w' seen' wave', pm_X1_coversEmptyCells_L11 F (N * N) xs (N * N) tn xc nn ne k (nI cv) t m = some (r, m') ∧ pm_X7_wrongBehind_L43 F (nI (N * N)) 121 ms 8000 mc 121 121 8000 be k t (nI (cnt (em xs) (N * N)) - nI cv) 1 (nI cv) seen wave = some (x4, x5, w', seen', wave') ∧ ((r = 1 ∧ x5 = 1 ∧ x4 = 0) ∨ (r = 0 ∧ (x5 = 0 ∨ (x5 = 1 ∧ ¬ x4 = 0)))) := by
  have hn := sq_le hN
  have hcl := cnt_le (em xs) (N * N)
  intro k
  induction k with
  | zero => intro cv t m seen wave h1 h2 h3; omega
  | succ k ih =>
    intro cv t m seen wave ht hcv hk hm hw
    rw [pm_X1_coversEmptyCells_L11, pm_X7_wrongBehind_L43, countEmpty_ok (by omega) (by omega), bd1_e]
    rcases ht with rfl | ⟨i, i1, rfl, i3⟩
    · rw [if_pos (show (-1 : Int32) = -1 from rfl), if_pos (show (-1 : Int32) < 0 by decide)]
      have key : ∃ r m', (if nI cv = nI (cnt (em xs) (N * N)) then some ((1 : Int32), m) else some (0, m)) = some (r, m') ∧ ((r = 1 ∧ nI (cnt (em xs) (N * N)) - nI cv = 0) ∨ (r = 0 ∧ ¬ nI (cnt (em xs) (N * N)) - nI cv = 0)) := by
        rw [sub_0 (by omega) (by omega)]
        by_cases he : cv = cnt (em xs) (N * N)
        · rw [he, if_pos rfl]; exact ⟨1, m, rfl, Or.inl ⟨rfl, rfl⟩⟩
        · rw [if_neg (fun q => he ((nI_eq (by omega) (by omega)).mp q))]; exact ⟨0, m, rfl, Or.inr ⟨rfl, he⟩⟩
      obtain ⟨r, m', q1, q2⟩ := key
      refine ⟨r, m', _, _, _, _, _, ?_, rfl, ?_⟩
      · rw [q1]
        split <;> rfl
      · rcases q2 with ⟨a, b⟩ | ⟨a, b⟩
        · exact Or.inl ⟨a, rfl, b⟩
        · exact Or.inr ⟨a, Or.inr ⟨rfl, b⟩⟩
    · obtain ⟨l1, l2, l3⟩ := hl i i1
      rw [show (8000 : Int32) = nI 8000 from by decide, z_gt (show cv < 8000 by omega) (by omega), if_neg (nI_m1 (show i < 2 ^ 31 by omega)), z_bd (show i < tn by omega) (by omega), if_neg (nI_neg (show i < 2 ^ 31 by omega)), if_neg (show ¬ (1 : Int32) = 0 by decide), z_bd (show i < 8000 by omega) (by omega), z_cl (show i < 2 ^ 31 by omega), l1, l2, m1_add, pm_X0_markEmpty]
      have nxt : ne i = -1 ∨ ∃ j, j < tc ∧ ne i = nI j ∧ cv + 1 ≤ j := by
        rcases l3 with q | ⟨j, j1, j2, j3⟩
        · exact Or.inl q
        · exact Or.inr ⟨j, j2, j3, by omega⟩
      have stop : ∀ (x4 : Int32) (w : Int32) (s v : Nat → Int32), ∃ x4', pm_X7_wrongBehind_L43 F (nI (N * N)) 121 ms 8000 mc 121 121 8000 be k (ne i) x4 0 w s v = some (x4', 0, w, s, v) := by
        intro x4 w s v
        obtain ⟨k', rfl⟩ : ∃ k', k = k' + 1 := ⟨k - 1, by omega⟩
        rw [pm_X7_wrongBehind_L43]
        by_cases hneg : ne i < 0
        · rw [if_pos hneg]; exact ⟨_, rfl⟩
        · rw [if_neg hneg, if_pos rfl]; exact ⟨_, rfl⟩
      rcases free_both (F := F) (xc i) hN hB with ⟨c, hc, e1, e2, e3, e4⟩ | ⟨e3, e4⟩
      · rw [e3, e4, bd1_e, bd1_e, if_neg (show ¬ (1 : Int32) = 0 by decide), if_neg (show ¬ (1 : Int32) = 0 by decide), e1, z_bd hc (by omega), z_bd (show c < 121 by omega) (by omega), z_cl (show c < 2 ^ 31 by omega)]
        by_cases hs : seen c = 0
        · have hpos : 0 < cnt (sn seen) (N * N) := cnt_pos hc (decide_eq_true hs)
          rw [if_pos ((hm c hc).mpr hs), if_pos hs, bd2_e, bd1_e, if_neg (show ¬ (1 : Int32) = 0 by decide), if_neg (show ¬ (1 : Int32) = 0 by decide), reach_new (show c < 121 by omega) (show cv < 121 by omega) hs, bd3_e, bd3_e, z_1, if_neg (z_in (show i < nn by omega) (by omega)), if_neg (z_in (show i < 8000 by omega) (by omega))]
          have hcu : cnt (sn seen) (N * N) = cnt (sn (upd seen c 1)) (N * N) + 1 := by
            refine cnt_upd hc ?_ (decide_eq_true hs) ?_
            · unfold sn; rw [u_s]; decide
            · intro d _ hd; unfold sn; rw [u_n hd]
          exact ih (cv + 1) (ne i) (upd m c 1) (upd seen c 1) _ (by
            rcases nxt with q | ⟨j, j1, j2, j3⟩
            · exact Or.inl q
            · exact Or.inr ⟨j, j1, j2, j3⟩) (by omega) (by omega) (fun d hd => by
            by_cases ed : d = c
            · subst ed; rw [u_s, u_s]
            · rw [u_n ed, u_n ed]; exact hm d hd) (by omega)
        · rw [if_neg (fun q => hs ((hm c hc).mp q)), if_neg hs, bd2_e, if_pos rfl, bd1_e, if_pos rfl, bd3_e, if_neg (z_in (show i < 8000 by omega) (by omega))]
          obtain ⟨x4', q⟩ := stop (nI (cnt (em xs) (N * N)) - nI (cv + 1)) (nI cv) seen wave
          rw [q]
          exact ⟨0, m, x4', 0, _, _, _, rfl, rfl, Or.inr ⟨rfl, Or.inl rfl⟩⟩
      · rw [e3, e4, bd1_e, bd1_e, if_pos rfl, if_pos rfl, bd2_e, if_pos rfl, bd1_e, if_pos rfl, bd3_e, if_neg (z_in (show i < 8000 by omega) (by omega))]
        obtain ⟨x4', q⟩ := stop (nI (cnt (em xs) (N * N)) - nI (cv + 1)) (nI cv) seen wave
        rw [q]
        exact ⟨0, m, x4', 0, _, _, _, rfl, rfl, Or.inr ⟨rfl, Or.inl rfl⟩⟩
theorem nI_lit {P : Nat → Prop} {x : Int32} (n : Nat) (h : x = nI n) (hp : P n) : ∃ k, x = nI k ∧ P k := ⟨n, h, hp⟩
/-- both sides' wrongBehind; s is the entry's number, shifted by one -/
theorem wb_both {F N tc tn nn s : Nat} {xs ms xa xc mc bh ne he be m seen wave : Nat → Int32} (sd' mv o x1 w : Int32) (hF : 9000 < F) (hN : N < 12) (hB : BR N xs ms) (h8 : tc ≤ 8000) (htn : tc ≤ tn) (htn2 : tn ≤ 8000) (hnn : tc ≤ nn) (hnn2 : nn ≤ 8000) (hl : NB tc xc mc ne be) (hK : LK tc xa bh ne) (hh : ∀ s, s ≤ tc → he s = bh s) (hs : s ≤ tc) (hx : x1 + 1 = nI s) (ho : (mv = sd' ∧ o = 1) ∨ (¬ mv = sd' ∧ o = 0)) :
    ∃ r m' w' seen' wave', pm_X1_wrongBehind F sd' mv (N * N) xs (N * N) m tn xc (nn + 1) bh nn ne x1 = some (r, m') ∧ pm_X7_wrongBehind F (nI (N * N)) w 121 ms 8000 mc 121 seen 121 wave 8001 he 8000 be (nI s) o = some (r, w', seen', wave') ∧ ∃ k, r = nI k ∧ k ≤ 5 := by
  have hn := sq_le hN
  have he' : ∀ i, i < N * N → ms i = xs i := fun i hi => (hB i hi).2
  rw [pm_X1_wrongBehind, pm_X7_wrongBehind, hx, z_bd (show s < nn + 1 by omega) (by omega), z_bd (show s < 8001 by omega) (by omega), z_cl (show s < 2 ^ 31 by omega), hh s hs]
  rcases ho with ⟨ho, rfl⟩ | ⟨ho, rfl⟩
  · rw [if_pos ho, if_neg (show ¬ (1 : Int32) = 0 by decide)]
    rcases hK.1 s hs with q | ⟨h, h1, h2, h3⟩
    · rw [q, if_pos rfl, if_pos (show (-1 : Int32) < 0 by decide)]
      exact ⟨3, m, w, seen, wave, rfl, rfl, nI_lit 3 (by decide) (by omega)⟩
    · rw [h2, if_neg (nI_m1 (show h < 2 ^ 31 by omega)), if_neg (nI_neg (show h < 2 ^ 31 by omega)), z_bd (show h < nn by omega) (by omega), z_bd (show h < 8000 by omega) (by omega), z_cl (show h < 2 ^ 31 by omega), (hl h h1).2.1]
      rcases (hl h h1).2.2 with q | ⟨j, j1, j2, j3⟩
      · rw [q, if_pos rfl, if_neg (show ¬ (0 : Int32) ≤ -1 by decide)]
        exact ⟨0, m, w, seen, wave, rfl, rfl, nI_lit 0 (by decide) (by omega)⟩
      · rw [j3, if_neg (nI_m1 (show j < 2 ^ 31 by omega)), if_pos (nI_pos' (show j < 2 ^ 31 by omega))]
        exact ⟨3, m, w, seen, wave, rfl, rfl, nI_lit 3 (by decide) (by omega)⟩
  · rw [if_neg ho, if_pos rfl, forget_ok (by omega) (by omega) (by omega), bd2_e, empty_ok (by omega) (by omega) (by omega), bd1_e, cnt_em he', pm_X1_coversEmptyCells, clear_ok (by omega) (by omega), bd1_e]
    have hz : cnt (sn (fun i => if i < 121 then 0 else seen i)) (N * N) = N * N := cnt_all _ (fun j hj => decide_eq_true (if_pos (show j < 121 by omega)))
    obtain ⟨r, m', x4, x5, w', seen', wave', q1, q2, q3⟩ := covers_L (F := F) (by omega) hN hB h8 htn htn2 hnn hnn2 hl F 0 (bh s) (fun i => if i < N * N then 0 else m i) (fun i => if i < 121 then 0 else seen i) wave (by
      rcases hK.1 s hs with q | ⟨h, h1, h2, h3⟩
      · exact Or.inl q
      · exact Or.inr ⟨h, h1, h2, Nat.zero_le _⟩) (by omega) (by omega) (fun c hc => by
      have q1 : (fun i => if i < N * N then 0 else m i) c = (0 : Int32) := if_pos hc
      have q2 : (fun i => if i < 121 then 0 else seen i) c = (0 : Int32) := if_pos (show c < 121 by omega)
      exact ⟨fun _ => q2, fun _ => q1⟩) (by omega)
    have e0 : nI (cnt (em xs) (N * N)) - nI 0 = nI (cnt (em xs) (N * N)) := by rw [nI_0]; grind
    rw [e0, show nI 0 = (0 : Int32) from nI_0] at q2
    rw [show nI 0 = (0 : Int32) from nI_0] at q1
    rw [q1, q2, bd2_e, bd5_e]
    rcases q3 with ⟨rfl, rfl, rfl⟩ | ⟨rfl, rfl | ⟨rfl, q4⟩⟩
    · rw [if_neg (show ¬ (1 : Int32) = 0 by decide), if_neg (show ¬ (1 : Int32) = 0 by decide), if_pos rfl]
      exact ⟨0, m', w', seen', wave', rfl, rfl, nI_lit 0 (by decide) (by omega)⟩
    · rw [if_pos rfl, if_pos rfl]
      exact ⟨4, m', w', seen', wave', rfl, rfl, nI_lit 4 (by decide) (by omega)⟩
    · rw [if_pos rfl, if_neg (show ¬ (1 : Int32) = 0 by decide), if_neg q4]
      exact ⟨4, m', w', seen', wave', rfl, rfl, nI_lit 4 (by decide) (by omega)⟩
