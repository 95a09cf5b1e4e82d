/-! PURE: the reference's wave -/
def sn (seen : Nat → Int32) (c : Nat) : Bool := decide (seen c = 0)
def BF (N : Nat) (st : Nat → Int32) (s : Int32) (Sd : Nat → Prop) (w : Nat) (seen wave : Nat → Int32) : Prop :=
  (∀ i, i < w → ∃ d, d < N * N ∧ wave i = nI d ∧ seen d = 1 ∧ st d = s ∧ ∃ a, Sd a ∧ Ch N st a d) ∧
  (∀ c, c < N * N → seen c = 0 ∨ (seen c = 1 ∧ ∃ i, i < w ∧ wave i = nI c)) ∧ w + cnt (sn seen) (N * N) = N * N
theorem reach_ok {F N c w : Nat} {st seen wave : Nat → Int32} {s : Int32} {Sd : Nat → Prop} (hN : N < 12) (hc : c < N * N) (hs : st c = s) (hr : ∃ a, Sd a ∧ Ch N st a c) (hB : BF N st s Sd w seen wave) :
    ∃ w' seen' wave', pm_X7_reach F (nI w) 121 seen 121 wave (nI c) = some (nI w', seen', wave') ∧ BF N st s Sd w' seen' wave' ∧ seen' c = 1 ∧ w ≤ w' ∧ (∀ i, i < w → wave' i = wave i) ∧ ∀ d, seen d = 1 → seen' d = 1 := by
  have hn := sq_le hN
  rw [pm_X7_reach, z_bd (show c < 121 by omega) (by omega), z_cl (show c < 2 ^ 31 by omega)]
  by_cases h : seen c = 0
  · have hpos : 0 < cnt (sn seen) (N * N) := cnt_pos hc (decide_eq_true h)
    have hw : w < N * N := by have := hB.2.2; omega
    rw [if_pos h, z_bd (show w < 121 by omega) (by omega), z_1, z_cl (show w < 2 ^ 31 by omega), show vp_nar .boolean (1 : Int32) = 1 from rfl]
    have e1 : (upd seen c 1) c = 1 := if_pos rfl
    have e2 : ∀ d, d ≠ c → (upd seen c 1) d = seen d := fun d hd => if_neg hd
    have f1 : (upd wave w (nI c)) w = nI c := if_pos rfl
    have f2 : ∀ i, i ≠ w → (upd wave w (nI c)) i = wave i := fun d hd => if_neg hd
    have mono : ∀ d, seen d = 1 → (upd seen c 1) d = 1 := by
      intro d hd
      by_cases e : d = c
      · subst e; exact e1
      · rw [e2 d e]; exact hd
    refine ⟨w + 1, _, _, rfl, ⟨?_, ?_, ?_⟩, e1, Nat.le_succ w, fun i hi => f2 i (by omega), mono⟩
    · intro i hi
      by_cases e : i = w
      · subst e; exact ⟨c, hc, f1, e1, hs, hr⟩
      · obtain ⟨d, q1, q2, q3, q4⟩ := hB.1 i (by omega)
        exact ⟨d, q1, (f2 i e).trans q2, mono d q3, q4⟩
    · intro d hd
      by_cases e : d = c
      · subst e; exact Or.inr ⟨e1, w, Nat.lt_succ_self w, f1⟩
      · rw [e2 d e]
        rcases hB.2.1 d hd with q | ⟨q, i, q1, q2⟩
        · exact Or.inl q
        · exact Or.inr ⟨q, i, by omega, (f2 i (by omega)).trans q2⟩
    · have : cnt (sn seen) (N * N) = cnt (sn (upd seen c 1)) (N * N) + 1 := by
        refine cnt_upd hc ?_ (decide_eq_true h) ?_
        · unfold sn; rw [e1]; decide
        · intro d _ hd; unfold sn; rw [e2 d hd]
      have := hB.2.2
      omega
  · rw [if_neg h]
    rcases hB.2.1 c hc with q | ⟨q, -⟩
    · exact absurd q h
    · exact ⟨w, seen, wave, rfl, hB, q, Nat.le_refl _, fun _ _ => rfl, fun _ h => h⟩
theorem nI_neg {d : Nat} (h : d < 2 ^ 31) : ¬ nI d < 0 := nI_pos h
theorem spread_in {F N d t : Nat} {st : Nat → Int32} {s : Int32} {Sd : Nat → Prop} (hN : N < 12) (hd : d < N * N) (hs : st d = s) (hr : ∃ a, Sd a ∧ Ch N st a d) :
    ∀ (k j w : Nat) (seen wave : Nat → Int32), j ≤ 6 → 6 < j + k → t < w → wave t = nI d → BF N st s Sd w seen wave → (∀ k', k' < j → ∀ e, nbr N d k' = some e → st e = s → seen e = 1) →
    ∃ w' seen' wave', pm_X7_spread_L12_2 F (nI N) 121 st 121 121 s (nI t) k (nI j) (nI w) seen wave = some (nI w', seen', wave') ∧ BF N st s Sd w' seen' wave' ∧ (∀ e, adj N st d e → seen' e = 1) ∧ w ≤ w' ∧ (∀ i, i < w → wave' i = wave i) ∧ ∀ e, seen e = 1 → seen' e = 1 := by
  have hn := sq_le hN
  intro k
  induction k with
  | zero => intro j w seen wave h1 h2; omega
  | succ k ih =>
    intro j w seen wave h1 h2 ht hwt hB hj
    rw [pm_X7_spread_L12_2]
    have hw : w ≤ N * N := by have := hB.2.2; omega
    by_cases h : j < 6
    · rw [show (6 : Int32) = nI 6 from by decide, z_gt h (by omega), z_bd (show t < 121 by omega) (by omega), z_cl (show t < 2 ^ 31 by omega), hwt, neighbour_ok hN hd h, bd1_e, z_1]
      cases hb : nbr N d j with
      | none =>
        rw [show nbI N d j = -1 by unfold nbI; rw [hb], if_pos (by decide)]
        exact ih (j + 1) w seen wave h (by omega) ht hwt hB (fun k' hk' e q1 q2 => by
          by_cases e1 : k' = j
          · subst e1; rw [hb] at q1; cases q1
          · exact hj k' (by omega) e q1 q2)
      | some e =>
        have he := (nbr_ok hN hd h hb).1
        rw [show nbI N d j = nI e by unfold nbI; rw [hb], if_neg (nI_neg (show e < 2 ^ 31 by omega)), z_bd (show e < 121 by omega) (by omega), z_cl (show e < 2 ^ 31 by omega)]
        by_cases hse : st e = s
        · rw [if_pos hse]
          have hre : ∃ a, Sd a ∧ Ch N st a e := by
            obtain ⟨a, a1, a2⟩ := hr
            exact ⟨a, a1, a2.step ⟨j, h, hb, hse.trans hs.symm⟩⟩
          obtain ⟨w1, seen1, wave1, q1, q2, q3, q4, q5, q6⟩ := reach_ok (F := F) hN he hse hre hB
          rw [q1, bd3_e]
          obtain ⟨w2, seen2, wave2, r1, r2, r3, r4, r5, r6⟩ := ih (j + 1) w1 seen1 wave1 h (by omega) (by omega) ((q5 t ht).trans hwt) q2 (fun k' hk' e' p1 p2 => by
            by_cases e1 : k' = j
            · subst e1; rw [hb] at p1; cases p1; exact q3
            · exact q6 e' (hj k' (by omega) e' p1 p2))
          exact ⟨w2, seen2, wave2, r1, r2, r3, by omega, fun i hi => (r5 i (by omega)).trans (q5 i hi), fun e' he' => r6 e' (q6 e' he')⟩
        · rw [if_neg hse]
          exact ih (j + 1) w seen wave h (by omega) ht hwt hB (fun k' hk' e' q1 q2 => by
            by_cases e1 : k' = j
            · subst e1; rw [hb] at q1; cases q1; exact absurd q2 hse
            · exact hj k' (by omega) e' q1 q2)
    · have : j = 6 := by omega
      subst this
      rw [show (6 : Int32) = nI 6 from by decide, z_le (Nat.le_refl _) (by omega)]
      exact ⟨w, seen, wave, rfl, hB, fun e ⟨k', hk', q1, q2⟩ => hj k' hk' e q1 (q2.trans hs), Nat.le_refl _, fun _ _ => rfl, fun _ h => h⟩
theorem spread_out {F N : Nat} {st : Nat → Int32} {s : Int32} {Sd : Nat → Prop} (hF : 6 < F) (hN : N < 12) :
    ∀ (k t w : Nat) (seen wave : Nat → Int32), t ≤ w → N * N < t + k → BF N st s Sd w seen wave → (∀ i, i < t → ∀ d, d < N * N → wave i = nI d → ∀ e, adj N st d e → seen e = 1) →
    ∃ w' seen' wave', pm_X7_spread_L2 F (nI N) 121 st 121 121 s k (nI t) (nI w) seen wave = some (nI w', seen', wave') ∧ BF N st s Sd w' seen' wave' ∧ (∀ d, d < N * N → seen' d = 1 → ∀ e, adj N st d e → seen' e = 1) ∧ ∀ e, seen e = 1 → seen' e = 1 := by
  have hn := sq_le hN
  intro k
  induction k with
  | zero => intro t w seen wave h1 h2 hB; have := hB.2.2; omega
  | succ k ih =>
    intro t w seen wave h1 h2 hB hc
    have hw : w ≤ N * N := by have := hB.2.2; omega
    rw [pm_X7_spread_L2]
    by_cases h : t < w
    · obtain ⟨d, q1, q2, q3, q4, q5⟩ := hB.1 t h
      obtain ⟨w1, seen1, wave1, r1, r2, r3, r4, r5, r6⟩ := spread_in (F := F) hN q1 q4 q5 F 0 w seen wave (by omega) (by omega) h q2 hB (fun k' hk' => by omega)
      rw [z_gt h (by omega), z_0, r1, bd3_e, z_1]
      obtain ⟨w2, seen2, wave2, p1, p2, p3, p4⟩ := ih (t + 1) w1 seen1 wave1 (by omega) (by omega) r2 (by
        intro i hi d' hd' e1 e e2
        by_cases ei : i = t
        · subst ei
          rw [r5 i h, q2] at e1
          have : d = d' := (nI_eq (by omega) (by omega)).mp e1
          subst this
          exact r3 e e2
        · rw [r5 i (by omega)] at e1
          exact r6 e (hc i (by omega) d' hd' e1 e e2))
      exact ⟨w2, seen2, wave2, p1, p2, p3, fun e he => p4 e (r6 e he)⟩
    · have : t = w := by omega
      subst this
      rw [z_le (Nat.le_refl _) (by omega)]
      refine ⟨t, seen, wave, rfl, hB, fun d hd hsd e he => ?_, fun _ h => h⟩
      rcases hB.2.1 d hd with q | ⟨-, i, q1, q2⟩
      · rw [q] at hsd; exact absurd hsd (by decide)
      · exact hc i q1 d hd q2 e he
/-- the wave comes to all that is joined to what it began with, and to nothing else -/
theorem spread_ok {F N w : Nat} {st seen wave : Nat → Int32} {s : Int32} {Sd : Nat → Prop} (hF : 200 < F) (hN : N < 12) (hB : BF N st s Sd w seen wave) (hsd : ∀ a, Sd a → a < N * N ∧ seen a = 1) :
    ∃ w' seen' wave', pm_X7_spread F (nI N) (nI w) 121 st 121 seen 121 wave s = some (nI w', seen', wave') ∧ ∀ c, c < N * N → (seen' c = 0 ∨ seen' c = 1) ∧ (seen' c = 1 ↔ ∃ a, Sd a ∧ Ch N st a c) := by
  have hn := sq_le hN
  obtain ⟨w', seen', wave', q1, q2, q3, q4⟩ := spread_out (F := F) (by omega) hN F 0 w seen wave (Nat.zero_le _) (by omega) hB (fun i hi => by omega)
  refine ⟨w', seen', wave', ?_, fun c hc => ⟨?_, ?_, ?_⟩⟩
  · rw [pm_X7_spread, z_0, q1, bd3_e]
  · rcases q2.2.1 c hc with q | q
    · exact Or.inl q
    · exact Or.inr q.1
  · intro h
    rcases q2.2.1 c hc with q | ⟨-, i, p1, p2⟩
    · rw [q] at h; exact absurd h (by decide)
    · obtain ⟨d, d1, d2, -, -, d5⟩ := q2.1 i p1
      have : d = c := (nI_eq (by omega) (by omega)).mp (d2.symm.trans p2)
      subst this
      exact d5
  · rintro ⟨a, a1, a2⟩
    have := a2.ind (fun x => x < N * N ∧ seen' x = 1) ⟨(hsd a a1).1, q4 a (hsd a a1).2⟩ (fun x y hx hP hxy => ⟨adj_lt hN hP.1 hxy, q3 x hP.1 hP.2 y hxy⟩)
    exact this.2
