/-! PURE: names and numbers of chains -/
def LN (N : Nat) (st : Nat → Int32) (a d : Nat) : Prop := Ch N st a d ∧ ∀ c, Ch N st a c → d ≤ c
theorem LN.uniq {N : Nat} {st : Nat → Int32} {a d e : Nat} (h : LN N st a d) (h2 : LN N st a e) : d = e := Nat.le_antisymm (h.2 e h2.1) (h2.2 d h.1)
theorem chainName_L {F N a : Nat} {st m z : Nat → Int32} (hN : N < 12) (ha : a < N * N) (hm : ∀ c, c < N * N → (Ch N st a c → m c = 1) ∧ (¬ Ch N st a c → m c = 0)) :
    ∀ (k j : Nat), j ≤ a → a < j + k → (∀ c, c < j → ¬ Ch N st a c) → ∃ d, pm_X0_chainName_L31 F (N * N) (nI a) m z k (nI j) = some (nI d, m, z) ∧ LN N st a d := by
  have hn := sq_le hN
  intro k
  induction k with
  | zero => intro j h1 h2; omega
  | succ k ih =>
    intro j h1 h2 hj
    rw [pm_X0_chainName_L31]
    by_cases h : j < a
    · rw [z_gt h (by omega), z_bd (show j < N * N by omega) (by omega), z_cl (show j < 2 ^ 31 by omega), z_1]
      by_cases hc : Ch N st a j
      · rw [(hm j (by omega)).1 hc, if_neg (by decide)]
        exact ⟨j, rfl, hc, fun c hcc => Nat.not_lt.mp (fun q => hj c q hcc)⟩
      · rw [(hm j (by omega)).2 hc, if_pos rfl]
        exact ih (j + 1) h (by omega) (fun c hcj => by
          by_cases e : c = j
          · subst e; exact hc
          · exact hj c (by omega))
    · have : j = a := by omega
      subst this
      rw [z_le (Nat.le_refl _) (by omega)]
      exact ⟨j, rfl, Ch.rf, fun c hcc => Nat.not_lt.mp (fun q => hj c q hcc)⟩
theorem has_ok {F n a : Nat} (h : a < n) (hn : n < 2 ^ 31) : pm_X0_has F n (nI a) = some 1 := by
  rw [pm_X0_has, if_neg (nI_neg (show a < 2 ^ 31 by omega)), z_gt h hn]
theorem has_m1 {F n : Nat} : pm_X0_has F n (-1) = some 0 := by
  rw [pm_X0_has, if_pos (by decide)]
theorem chainName_ok {F N a : Nat} {st near m z : Nat → Int32} (hF : 200 < F) (hN : N < 12) (ha : a < N * N) (hs : st a ≠ 0) (hnear : ∀ c, c < N * N → ∀ k, k < 6 → near (6 * c + k) = nbI N c k) :
    ∃ d m' z', pm_X0_chainName F (N * N) st (6 * (N * N)) near (N * N) m (N * N) z (nI a) = some (nI d, m', z') ∧ LN N st a d := by
  have hn := sq_le hN
  rw [pm_X0_chainName, has_ok ha (by omega), bd1_e, if_neg (by decide), z_bd ha (by omega), z_cl (show a < 2 ^ 31 by omega), if_neg hs, clear_ok (by omega) (by omega), bd1_e]
  obtain ⟨m', z', e1, e2, e3⟩ := markChain_ok (F := F) (st := st) (s := z) (mk := 1) (m := fun i => if i < N * N then 0 else m i) hF hN ha hnear (fun c hc => by rw [if_pos (hc.lt hN ha), if_pos ha])
  rw [e1, bd2_e]
  obtain ⟨d, q1, q2⟩ := chainName_L (F := F) (z := z') (m := m') hN ha (fun c hc => ⟨fun h => by rw [e2 c h, if_pos hc]; decide, fun h => by rw [e3 c h, if_pos hc]⟩) F 0 (Nat.zero_le _) (by omega) (fun c hc => by omega)
  rw [show nI 0 = (0 : Int32) from nI_0] at q1
  exact ⟨d, m', z', q1, q2⟩
theorem nameOf_L {F N a : Nat} {st seen : Nat → Int32} (hN : N < 12) (ha : a < N * N) (hm : ∀ c, c < N * N → (seen c = 0 ∨ seen c = 1) ∧ (seen c = 1 ↔ Ch N st a c)) :
    ∀ (k j : Nat), j ≤ a → a < j + k → (∀ c, c < j → ¬ Ch N st a c) → ∃ d, pm_X7_nameOf_L21 F 121 seen k (nI j) = some (nI d) ∧ LN N st a d := by
  have hn := sq_le hN
  intro k
  induction k with
  | zero => intro j h1 h2; omega
  | succ k ih =>
    intro j h1 h2 hj
    rw [pm_X7_nameOf_L21, z_bd (show j < 121 by omega) (by omega), z_cl (show j < 2 ^ 31 by omega), z_1]
    obtain ⟨q1, q2⟩ := hm j (by omega)
    by_cases hc : Ch N st a j
    · rw [q2.mpr hc, if_neg (by decide)]
      exact ⟨j, rfl, hc, fun c hcc => Nat.not_lt.mp (fun q => hj c q hcc)⟩
    · have h0 : seen j = 0 := by
        rcases q1 with q | q
        · exact q
        · exact absurd (q2.mp q) hc
      rw [if_pos h0]
      have hja : j < a := by
        rcases Nat.lt_or_ge j a with q | q
        · exact q
        · have : j = a := by omega
          subst this
          exact absurd Ch.rf hc
      exact ih (j + 1) hja (by omega) (fun c hcj => by
        by_cases e : c = j
        · subst e; exact hc
        · exact hj c (by omega))
theorem nameOf_ok {F N a : Nat} {st seen wave : Nat → Int32} (hF : 200 < F) (hN : N < 12) (ha : a < N * N) :
    ∃ d w seen' wave', pm_X7_nameOf F (nI N) 121 st 121 seen 121 wave (nI a) = some (nI d, nI w, seen', wave') ∧ LN N st a d := by
  have hn := sq_le hN
  rw [pm_X7_nameOf, forget_ok (by omega) (by omega) (by omega), bd2_e]
  obtain ⟨w1, seen1, wave1, q1, q2, q3, q4, q5, q6⟩ := reach_ok (F := F) (st := st) (s := st a) (Sd := fun x => x = a) (wave := wave) (w := 0) hN ha rfl ⟨a, rfl, Ch.rf⟩ (BF_0 (seen := seen) hN)
  rw [show nI 0 = (0 : Int32) from nI_0] at q1
  rw [q1, bd3_e, z_bd (show a < 121 by omega) (by omega), z_cl (show a < 2 ^ 31 by omega)]
  obtain ⟨w2, seen2, wave2, r1, r2⟩ := spread_ok (F := F) hF hN q2 (fun x hx => by subst hx; exact ⟨ha, q3⟩)
  rw [r1, bd3_e]
  obtain ⟨d, p1, p2⟩ := nameOf_L (F := F) (st := st) hN ha (fun c hc => ⟨(r2 c hc).1, (r2 c hc).2.trans ⟨fun ⟨x, x1, x2⟩ => by subst x1; exact x2, fun h => ⟨a, rfl, h⟩⟩⟩) F 0 (Nat.zero_le _) (by omega) (fun c hc => by omega)
  rw [show nI 0 = (0 : Int32) from nI_0] at p1
  rw [p1, bd1_e]
  exact ⟨d, w2, seen2, wave2, rfl, p2⟩
/-- a stone that is the name of its chain -/
noncomputable def ld (N : Nat) (st : Nat → Int32) (q : Nat) : Bool := @decide (st q ≠ 0 ∧ LN N st q q) (Classical.propDecidable _)
theorem ld_t {N q : Nat} {st : Nat → Int32} (h : st q ≠ 0 ∧ LN N st q q) : ld N st q = true := @decide_eq_true _ (Classical.propDecidable _) h
theorem ld_f {N q : Nat} {st : Nat → Int32} (h : ¬ (st q ≠ 0 ∧ LN N st q q)) : ld N st q = false := @decide_eq_false _ (Classical.propDecidable _) h
def CC (N : Nat) (st : Nat → Int32) (p : Nat) (m : Nat → Int32) : Prop := ∀ c, c < N * N → (m c = 0 ∨ m c = 1) ∧ (m c = 1 ↔ ∃ q, q < p ∧ st q ≠ 0 ∧ Ch N st q c)
theorem countChains_L {F N : Nat} {st near : Nat → Int32} (hF : 200 < F) (hN : N < 12) (hnear : ∀ c, c < N * N → ∀ k, k < 6 → near (6 * c + k) = nbI N c k) :
    ∀ (k p : Nat) (m z : Nat → Int32), p ≤ N * N → N * N < p + k → CC N st p m → ∃ m' z', pm_X0_countChains_L8 F (N * N) st (6 * (N * N)) near (N * N) (N * N) k (nI (cnt (ld N st) p)) (nI p) m z = some (nI (cnt (ld N st) (N * N)), m', z') := by
  have hn := sq_le hN
  intro k
  induction k with
  | zero => intro p m z h1 h2; omega
  | succ k ih =>
    intro p m z h1 h2 hM
    rw [pm_X0_countChains_L8]
    by_cases h : p < N * N
    · rw [z_gt h (by omega), z_bd h (by omega), z_cl (show p < 2 ^ 31 by omega), z_1, z_1]
      obtain ⟨q1, q2⟩ := hM p h
      have e0 := ih (p + 1)
      rw [cnt] at e0
      by_cases hp : st p = 0
      · rw [if_pos hp]
        rw [ld_f (fun h => h.1 hp)] at e0
        refine e0 m z h (by omega) (fun c hc => ?_)
        obtain ⟨r1, r2⟩ := hM c hc
        refine ⟨r1, r2.trans ⟨fun ⟨q, a, b, d⟩ => ⟨q, by omega, b, d⟩, fun ⟨q, a, b, d⟩ => ⟨q, ?_, b, d⟩⟩⟩
        have : q ≠ p := fun hq => b (hq ▸ hp)
        omega
      · rw [if_neg hp, if_neg (z_in h (by omega))]
        by_cases hmp : m p = 0
        · rw [if_pos hmp]
          have hno : ¬ ∃ q, q < p ∧ st q ≠ 0 ∧ Ch N st q p := fun hx => by
            have := q2.mpr hx
            rw [hmp] at this
            exact absurd this (by decide)
          have hL : LN N st p p := ⟨Ch.rf, fun c hc => Nat.not_lt.mp (fun hlt => hno ⟨c, hlt, by rw [hc.same]; exact hp, hc.symm hN h⟩)⟩
          rw [ld_t ⟨hp, hL⟩, if_pos rfl] at e0
          have hz : ∀ c, Ch N st p c → m c = 0 := by
            intro c hc
            obtain ⟨r1, r2⟩ := hM c (hc.lt hN h)
            rcases r1 with r | r
            · exact r
            · obtain ⟨q, a, b, d⟩ := r2.mp r
              exact absurd ⟨q, a, b, d.trans (hc.symm hN h)⟩ hno
          obtain ⟨m', z', e1, e2, e3⟩ := markChain_ok (F := F) (st := st) (s := z) (mk := 1) (m := m) hF hN h hnear (fun c hc => by rw [hz c hc, hmp])
          rw [e1, bd2_e]
          refine e0 m' z' h (by omega) (fun c hc => ?_)
          by_cases hch : Ch N st p c
          · have : m' c = 1 := by rw [e2 c hch, hz c hch]; decide
            exact ⟨Or.inr this, fun _ => ⟨p, Nat.lt_succ_self p, hp, hch⟩, fun _ => this⟩
          · rw [e3 c hch]
            obtain ⟨r1, r2⟩ := hM c hc
            refine ⟨r1, r2.trans ⟨fun ⟨q, a, b, d⟩ => ⟨q, by omega, b, d⟩, fun ⟨q, a, b, d⟩ => ⟨q, ?_, b, d⟩⟩⟩
            have : q ≠ p := fun hq => hch (hq ▸ d)
            omega
        · rw [if_neg hmp]
          have hm1 : m p = 1 := by
            rcases q1 with q | q
            · exact absurd q hmp
            · exact q
          obtain ⟨q, a, b, d⟩ := q2.mp hm1
          have hnl : ¬ (st p ≠ 0 ∧ LN N st p p) := fun hx => by
            have := hx.2.2 q (d.symm hN (by omega))
            omega
          rw [ld_f hnl] at e0
          refine e0 m z h (by omega) (fun c hc => ?_)
          obtain ⟨r1, r2⟩ := hM c hc
          refine ⟨r1, r2.trans ⟨fun ⟨q', a', b', d'⟩ => ⟨q', by omega, b', d'⟩, fun ⟨q', a', b', d'⟩ => ?_⟩⟩
          by_cases hq : q' = p
          · subst hq
            exact ⟨q, a, b, d.trans d'⟩
          · exact ⟨q', by omega, b', d'⟩
    · have : p = N * N := by omega
      subst this
      rw [z_le (Nat.le_refl _) (by omega)]
      exact ⟨m, z, rfl⟩
theorem countChains_ok {F N : Nat} {st near m z : Nat → Int32} (hF : 200 < F) (hN : N < 12) (hnear : ∀ c, c < N * N → ∀ k, k < 6 → near (6 * c + k) = nbI N c k) :
    ∃ m' z', pm_X0_countChains F (N * N) st (6 * (N * N)) near (N * N) m (N * N) z = some (nI (cnt (ld N st) (N * N)), m', z') := by
  have hn := sq_le hN
  rw [pm_X0_countChains, clear_ok (by omega) (by omega), bd1_e]
  obtain ⟨m', z', e1⟩ := countChains_L (F := F) (st := st) hF hN hnear F 0 (fun i => if i < N * N then 0 else m i) z (Nat.zero_le _) (by omega) (fun c hc => by
    have e : (fun i => if i < N * N then (0 : Int32) else m i) c = 0 := if_pos hc
    rw [e]
    exact ⟨Or.inl rfl, fun h => absurd h (by decide), fun ⟨q, a, _⟩ => by omega⟩)
  rw [show nI (cnt (ld N st) 0) = (0 : Int32) from nI_0, show nI 0 = (0 : Int32) from nI_0] at e1
  rw [e1, bd3_e]
  exact ⟨m', z', rfl⟩
theorem chains_L {F N : Nat} {st : Nat → Int32} (hF : 200 < F) (hN : N < 12) :
    ∀ (k p w : Nat) (seen wave : Nat → Int32), p ≤ N * N → N * N < p + k → ∃ w' seen' wave', pm_X7_chains_L4 F (nI N) (nI (N * N)) 121 st 121 121 k (nI (cnt (ld N st) p)) (nI p) (nI w) seen wave = some (nI (cnt (ld N st) (N * N)), nI w', seen', wave') := by
  have hn := sq_le hN
  intro k
  induction k with
  | zero => intro p w m z h1 h2; omega
  | succ k ih =>
    intro p w m z h1 h2
    rw [pm_X7_chains_L4]
    by_cases h : p < N * N
    · rw [z_gt h (by omega), z_bd (show p < 121 by omega) (by omega), z_cl (show p < 2 ^ 31 by omega), z_1, z_1, z_a0]
      have e0 := ih (p + 1)
      rw [cnt] at e0
      by_cases hp : st p = 0
      · rw [if_pos hp]
        rw [ld_f (fun h => h.1 hp)] at e0
        exact e0 w m z h (by omega)
      · rw [if_neg hp]
        obtain ⟨d, w1, m1, z1, q1, q2⟩ := nameOf_ok (F := F) (st := st) (seen := m) (wave := z) hF hN h
        have hd := q2.1.lt hN h
        rw [q1, bd4_e]
        by_cases e : d = p
        · subst e
          rw [if_pos rfl]
          rw [ld_t ⟨hp, q2⟩, if_pos rfl] at e0
          exact e0 w1 m1 z1 h (by omega)
        · rw [if_neg (fun he => e ((nI_eq (by omega) (by omega)).mp he))]
          rw [ld_f (fun hx => e (q2.uniq hx.2))] at e0
          exact e0 w1 m1 z1 h (by omega)
    · have : p = N * N := by omega
      subst this
      rw [z_le (Nat.le_refl _) (by omega)]
      exact ⟨w, m, z, rfl⟩
theorem chains_ok {F N w : Nat} {st seen wave : Nat → Int32} (hF : 200 < F) (hN : N < 12) :
    ∃ w' seen' wave', pm_X7_chains F (nI N) (nI (N * N)) (nI w) 121 st 121 seen 121 wave = some (nI (cnt (ld N st) (N * N)), nI w', seen', wave') := by
  have hn := sq_le hN
  rw [pm_X7_chains]
  obtain ⟨w', m', z', e1⟩ := chains_L (F := F) (st := st) hF hN F 0 w seen wave (Nat.zero_le _) (by omega)
  rw [show nI (cnt (ld N st) 0) = (0 : Int32) from nI_0, show nI 0 = (0 : Int32) from nI_0] at e1
  rw [e1, bd4_e]
  exact ⟨w', m', z', rfl⟩
