/-! PURE: would a play win? -/
theorem u_s {st : Nat → Int32} {p : Nat} {s : Int32} : upd st p s p = s := if_pos rfl
theorem u_n {st : Nat → Int32} {p c : Nat} {s : Int32} (h : c ≠ p) : upd st p s c = st c := if_neg h
theorem lift_ch {N p q d : Nat} {st : Nat → Int32} {s : Int32} (hs0 : s ≠ 0) (hpe : st p = 0) (hq : st q = s) (h : Ch N st q d) : Ch N (upd st p s) q d := by
  refine h.ind (fun x => Ch N (upd st p s) q x) Ch.rf ?_
  intro x y hx hP hxy
  obtain ⟨k, hk, h1, h2⟩ := hxy
  have e1 : st x = s := hx.same.trans hq
  have n1 : x ≠ p := fun e => hs0 (e1.symm.trans (e ▸ hpe))
  have n2 : y ≠ p := fun e => hs0 ((h2.trans e1).symm.trans (e ▸ hpe))
  exact hP.step ⟨k, hk, h1, by rw [u_n n1, u_n n2]; exact h2⟩
/-- p, or what lies beside it, is joined to E -/
def Nigh (N : Nat) (st : Nat → Int32) (s : Int32) (p : Nat) (E : Nat → Prop) : Prop := E p ∨ ∃ k d q, k < 6 ∧ nbr N p k = some d ∧ q < N * N ∧ st q = s ∧ E q ∧ Ch N st q d
theorem through {N p a b : Nat} {st : Nat → Int32} {s : Int32} (hN : N < 12) (ha : a < N * N) (E : Nat → Prop) (hsa : upd st p s a = s) (hEa : E a) (h : Ch N (upd st p s) a b) :
    Nigh N st s p E ∨ (b ≠ p ∧ ∃ q, q < N * N ∧ st q = s ∧ E q ∧ Ch N st q b) := by
  refine h.ind (fun x => Nigh N st s p E ∨ (x ≠ p ∧ ∃ q, q < N * N ∧ st q = s ∧ E q ∧ Ch N st q x)) ?_ ?_
  · by_cases e : a = p
    · subst e; exact Or.inl (Or.inl hEa)
    · exact Or.inr ⟨e, a, ha, (u_n (st := st) (s := s) e).symm.trans hsa, hEa, Ch.rf⟩
  · intro x y hx hP hxy
    rcases hP with hP | ⟨n1, q, q1, q2, q3, q4⟩
    · exact Or.inl hP
    · obtain ⟨k, hk, h1, h2⟩ := hxy
      by_cases e : y = p
      · subst e
        obtain ⟨k1, k2, k3⟩ := nbr_ok hN (hx.lt hN ha) hk h1
        exact Or.inl (Or.inr ⟨opk k, x, q, k2, k3, q1, q2, q3, q4⟩)
      · rw [u_n e, u_n n1] at h2
        exact Or.inr ⟨e, q, q1, q2, q3, q4.step ⟨k, hk, h1, h2⟩⟩
theorem nigh_ch {N p : Nat} {st : Nat → Int32} {s : Int32} {E : Nat → Prop} (hN : N < 12) (hp : p < N * N) (hs0 : s ≠ 0) (hpe : st p = 0) (h : Nigh N st s p E) : ∃ a, a < N * N ∧ upd st p s a = s ∧ E a ∧ Ch N (upd st p s) a p := by
  rcases h with h | ⟨k, d, q, hk, h1, h2, h3, h4, h5⟩
  · exact ⟨p, hp, u_s, h, Ch.rf⟩
  · have n1 : q ≠ p := fun e => hs0 (h3.symm.trans (e ▸ hpe))
    have ed : st d = s := h5.same.trans h3
    have n2 : d ≠ p := fun e => hs0 (ed.symm.trans (e ▸ hpe))
    obtain ⟨k1, k2, k3⟩ := nbr_ok hN hp hk h1
    exact ⟨q, h2, by rw [u_n n1]; exact h3, h4, (lift_ch hs0 hpe h3 h5).step ⟨opk k, k2, k3, by rw [u_s, u_n n2]; exact ed.symm⟩⟩
theorem won_play {N p : Nat} {st : Nat → Int32} {s : Int32} (hN : N < 12) (hp : p < N * N) (hs0 : s ≠ 0) (hpe : st p = 0) (hnw : ¬ Won N st s) :
    Won N (upd st p s) s ↔ Nigh N st s p (fun c => fe N s c = true) ∧ Nigh N st s p (fun c => lst N s c = true) := by
  constructor
  · rintro ⟨a, b, h1, h2, h3, h4, h5⟩
    have hb := h4.lt hN h1
    have hsb : upd st p s b = s := h4.same.trans h2
    refine ⟨?_, ?_⟩
    · rcases through hN h1 (fun c => fe N s c = true) h2 h3 h4 with q | ⟨-, q, q1, q2, q3, q4⟩
      · exact q
      · exact absurd ⟨q, b, q1, q2, q3, q4, h5⟩ hnw
    · rcases through hN hb (fun c => lst N s c = true) hsb h5 (h4.symm hN h1) with q | ⟨n1, q, q1, q2, q3, q4⟩
      · exact q
      · exact absurd ⟨a, q, h1, (u_n (st := st) (s := s) n1).symm.trans h2, h3, q4.symm hN q1, q3⟩ hnw
  · rintro ⟨h1, h2⟩
    obtain ⟨a, a1, a2, a3, a4⟩ := nigh_ch hN hp hs0 hpe h1
    obtain ⟨b, b1, b2, b3, b4⟩ := nigh_ch hN hp hs0 hpe h2
    exact ⟨a, b, a1, a2, a3, a4.trans (b4.symm hN b1), b3⟩
theorem would_L {F N p : Nat} {st near m : Nat → Int32} {s : Int32} (hN : N < 12) (hp : p < N * N) (hnear : ∀ c, c < N * N → ∀ k, k < 6 → near (6 * c + k) = nbI N c k) (hM : ME N st s (N * N) m) :
    ∀ (k j : Nat) (x : Int32), j ≤ 6 → 6 < j + k → V4 x → (b1 x ↔ fe N s p = true ∨ ∃ k' d, k' < j ∧ nbr N p k' = some d ∧ b1 (m d)) → (b2 x ↔ lst N s p = true ∨ ∃ k' d, k' < j ∧ nbr N p k' = some d ∧ b2 (m d)) →
    ∃ r, pm_X0_wouldWin_L20 F (6 * (N * N)) near (N * N) m (nI p) k x (nI j) = some r ∧ V4 r ∧ (b1 r ↔ fe N s p = true ∨ ∃ k' d, k' < 6 ∧ nbr N p k' = some d ∧ b1 (m d)) ∧ (b2 r ↔ lst N s p = true ∨ ∃ k' d, k' < 6 ∧ nbr N p k' = some d ∧ b2 (m d)) := by
  have hn := sq_le hN
  intro k
  induction k with
  | zero => intro j x h1 h2; omega
  | succ k ih =>
    intro j x h1 h2 hv hx1 hx2
    rw [pm_X0_wouldWin_L20]
    by_cases h : j < 6
    · rw [show (6 : Int32) = nI 6 from by decide, z_gt h (by omega), pk_mul, nI_add, z_bd (show 6 * p + j < 6 * (N * N) by omega) (by omega), z_cl (show 6 * p + j < 2 ^ 31 by omega), hnear p hp j h, z_1]
      cases hb : nbr N p j with
      | none =>
        rw [show nbI N p j = -1 by unfold nbI; rw [hb], if_pos rfl]
        refine ih (j + 1) x h (by omega) hv (hx1.trans ?_) (hx2.trans ?_)
        · refine ⟨fun q => q.imp id (fun ⟨k', d, a, b, c⟩ => ⟨k', d, by omega, b, c⟩), fun q => q.imp id (fun ⟨k', d, a, b, c⟩ => ⟨k', d, ?_, b, c⟩)⟩
          have : k' ≠ j := fun e => by rw [e, hb] at b; cases b
          omega
        · refine ⟨fun q => q.imp id (fun ⟨k', d, a, b, c⟩ => ⟨k', d, by omega, b, c⟩), fun q => q.imp id (fun ⟨k', d, a, b, c⟩ => ⟨k', d, ?_, b, c⟩)⟩
          have : k' ≠ j := fun e => by rw [e, hb] at b; cases b
          omega
      | some d =>
        have hd := (nbr_ok hN hp h hb).1
        rw [show nbI N p j = nI d by unfold nbI; rw [hb], if_neg (nI_m1 (show d < 2 ^ 31 by omega)), z_bd hd (by omega), z_cl (show d < 2 ^ 31 by omega)]
        obtain ⟨o1, o2, o3⟩ := v4_or hv (hM d hd).1
        refine ih (j + 1) _ h (by omega) o1 (o2.trans ?_) (o3.trans ?_)
        · rw [hx1]
          constructor
          · rintro ((q | ⟨k', d', a, b, c⟩) | q)
            · exact Or.inl q
            · exact Or.inr ⟨k', d', by omega, b, c⟩
            · exact Or.inr ⟨j, d, Nat.lt_succ_self j, hb, q⟩
          · rintro (q | ⟨k', d', a, b, c⟩)
            · exact Or.inl (Or.inl q)
            · by_cases e : k' = j
              · rw [e, hb] at b; cases b; exact Or.inr c
              · exact Or.inl (Or.inr ⟨k', d', by omega, b, c⟩)
        · rw [hx2]
          constructor
          · rintro ((q | ⟨k', d', a, b, c⟩) | q)
            · exact Or.inl q
            · exact Or.inr ⟨k', d', by omega, b, c⟩
            · exact Or.inr ⟨j, d, Nat.lt_succ_self j, hb, q⟩
          · rintro (q | ⟨k', d', a, b, c⟩)
            · exact Or.inl (Or.inl q)
            · by_cases e : k' = j
              · rw [e, hb] at b; cases b; exact Or.inr c
              · exact Or.inl (Or.inr ⟨k', d', by omega, b, c⟩)
    · have : j = 6 := by omega
      subst this
      rw [show (6 : Int32) = nI 6 from by decide, z_le (Nat.le_refl _) (by omega)]
      exact ⟨x, rfl, hv, hx1, hx2⟩
theorem would_ok {F N p : Nat} {st near ed m : Nat → Int32} {s : Int32} (hF : 200 < F) (hN : N < 12) (hp : p < N * N) (hs : s = 1 ∨ s = 2) (hpe : st p = 0) (hnw : ¬ Won N st s) (hnear : ∀ c, c < N * N → ∀ k, k < 6 → near (6 * c + k) = nbI N c k) (hed : ∀ c, c < N * N → ed c = edI N c) (hM : ME N st s (N * N) m) :
    ∃ r, pm_X0_wouldWin F (N * N) (6 * (N * N)) near (N * N) ed (N * N) m s (nI p) = some r ∧ ((r = 1 ∧ Won N (upd st p s) s) ∨ (r = 0 ∧ ¬ Won N (upd st p s) s)) := by
  have hn := sq_le hN
  have hs0 : s ≠ 0 := by rcases hs with rfl | rfl <;> decide
  obtain ⟨v1, v2, v3⟩ := ev_v N s p
  obtain ⟨r, q1, q2, q3, q4⟩ := would_L (F := F) hN hp hnear hM F 0 (ev N s p) (by omega) (by omega) v1 (v2.trans ⟨Or.inl, fun q => q.elim id (fun ⟨_, _, a, _⟩ => by omega)⟩) (v3.trans ⟨Or.inl, fun q => q.elim id (fun ⟨_, _, a, _⟩ => by omega)⟩)
  rw [show nI 0 = (0 : Int32) from nI_0] at q1
  rw [pm_X0_wouldWin, has_ok hp (by omega), bd1_e, if_neg (by decide), edgesOf_ok hN hp hs hed, bd1_e, q1, bd1_e]
  have e1 : b1 r ↔ Nigh N st s p (fun c => fe N s c = true) := by
    rw [q3]
    unfold Nigh
    refine ⟨fun q => q.imp id (fun ⟨k, d, a, b, c⟩ => ?_), fun q => q.imp id (fun ⟨k, d, q, a, b, c1, c2, c3, c4⟩ => ⟨k, d, a, b, (hM d (nbr_ok hN hp a b).1).2.1.mpr ⟨q, c1, c2, c4, c3⟩⟩)⟩
    obtain ⟨q, c1, c2, c3, c4⟩ := (hM d (nbr_ok hN hp a b).1).2.1.mp c
    exact ⟨k, d, q, a, b, c1, c2, c4, c3⟩
  have e2 : b2 r ↔ Nigh N st s p (fun c => lst N s c = true) := by
    rw [q4]
    unfold Nigh
    refine ⟨fun q => q.imp id (fun ⟨k, d, a, b, c⟩ => ?_), fun q => q.imp id (fun ⟨k, d, q, a, b, c1, c2, c3, c4⟩ => ⟨k, d, a, b, (hM d (nbr_ok hN hp a b).1).2.2.mpr ⟨q, c1, c2, c4, c3⟩⟩)⟩
    obtain ⟨q, c1, c2, c3, c4⟩ := (hM d (nbr_ok hN hp a b).1).2.2.mp c
    exact ⟨k, d, q, a, b, c1, c2, c4, c3⟩
  have e3 := won_play hN hp hs0 hpe hnw
  rw [← e1, ← e2] at e3
  by_cases h3 : r = 3
  · rw [if_pos h3]
    exact ⟨1, rfl, Or.inl ⟨rfl, e3.mpr ⟨Or.inr h3, Or.inr h3⟩⟩⟩
  · rw [if_neg h3]
    refine ⟨0, rfl, Or.inr ⟨rfl, fun hw => ?_⟩⟩
    obtain ⟨w1, w2⟩ := e3.mp hw
    rcases w1 with w1 | w1
    · rcases w2 with w2 | w2
      · rw [w1] at w2; exact absurd w2 (by decide)
      · exact h3 w2
    · exact h3 w1
