/-! PURE: the class's edges and winners -/
def fe (N : Nat) (s : Int32) (c : Nat) : Bool := if s = 1 then decide (c / N = 0) else decide (c % N = 0)
def lst (N : Nat) (s : Int32) (c : Nat) : Bool := if s = 1 then decide (c / N + 1 = N) else decide (c % N + 1 = N)
def ev (N : Nat) (s : Int32) (c : Nat) : Int32 := (if fe N s c then 1 else 0) ||| (if lst N s c then 2 else 0)
def edI (N c : Nat) : Int32 := ev N 1 c ||| ((ev N 2 c) <<< ((2 : Int32) &&& 31))
theorem ed_all : ∀ N, N < 12 → ∀ c, c < N * N → (edI N c &&& (3 : Int32)) = ev N 1 c ∧ edI N c >>> ((2 : Int32) &&& 31) = ev N 2 c := by decide +kernel
theorem sq_le {N : Nat} (hN : N < 12) : N * N ≤ 121 := by
  have : N ≤ 11 := by omega
  exact Nat.le_trans (Nat.mul_le_mul this this) (by decide)
theorem edgesOf_ok {F N c : Nat} {s : Int32} {ed : Nat → Int32} (hN : N < 12) (hc : c < N * N) (hs : s = 1 ∨ s = 2) (hed : ∀ c, c < N * N → ed c = edI N c) : pm_X0_edgesOf F (N * N) ed s (nI c) = some (ev N s c) := by
  have hn := sq_le hN
  have h1 := ed_all N hN c hc
  rw [pm_X0_edgesOf]
  rcases hs with rfl | rfl
  · rw [if_pos rfl, z_bd hc (by omega), z_cl (show c < 2 ^ 31 by omega), hed c hc, h1.1]
  · rw [if_neg (by decide), z_bd hc (by omega), z_cl (show c < 2 ^ 31 by omega), hed c hc, h1.2]
def V4 (x : Int32) : Prop := x = 0 ∨ x = 1 ∨ x = 2 ∨ x = 3
def b1 (x : Int32) : Prop := x = 1 ∨ x = 3
def b2 (x : Int32) : Prop := x = 2 ∨ x = 3
theorem v4_or {x y : Int32} (hx : V4 x) (hy : V4 y) : V4 (x ||| y) ∧ (b1 (x ||| y) ↔ b1 x ∨ b1 y) ∧ (b2 (x ||| y) ↔ b2 x ∨ b2 y) := by
  unfold V4 b1 b2 at *
  rcases hx with rfl | rfl | rfl | rfl <;> rcases hy with rfl | rfl | rfl | rfl <;> decide
theorem v4_eq {x y : Int32} (hx : V4 x) (hy : V4 y) (h1 : b1 x ↔ b1 y) (h2 : b2 x ↔ b2 y) : x = y := by
  unfold V4 b1 b2 at *
  rcases hx with rfl | rfl | rfl | rfl <;> rcases hy with rfl | rfl | rfl | rfl <;> revert h1 h2 <;> decide
theorem ev_v (N : Nat) (s : Int32) (c : Nat) : V4 (ev N s c) ∧ (b1 (ev N s c) ↔ fe N s c = true) ∧ (b2 (ev N s c) ↔ lst N s c = true) := by
  unfold ev V4 b1 b2
  cases fe N s c <;> cases lst N s c <;> decide
/-- the marks when the stones below p have told their edges -/
def ME (N : Nat) (st : Nat → Int32) (s : Int32) (p : Nat) (m : Nat → Int32) : Prop :=
  ∀ c, c < N * N → V4 (m c) ∧ (b1 (m c) ↔ ∃ q, q < p ∧ st q = s ∧ Ch N st q c ∧ fe N s q = true) ∧ (b2 (m c) ↔ ∃ q, q < p ∧ st q = s ∧ Ch N st q c ∧ lst N s q = true)
theorem markFrom_L {F N : Nat} {st near ed : Nat → Int32} {s : Int32} (hF : 200 < F) (hN : N < 12) (hs : s = 1 ∨ s = 2) (hnear : ∀ c, c < N * N → ∀ k, k < 6 → near (6 * c + k) = nbI N c k) (hed : ∀ c, c < N * N → ed c = edI N c) :
    ∀ (k p : Nat) (m z : Nat → Int32), p ≤ N * N → N * N < p + k → ME N st s p m → ∃ m' z', pm_X0_markFromEdges_L6 F (N * N) st (6 * (N * N)) near (N * N) ed (N * N) (N * N) s k (nI p) m z = some (m', z') ∧ ME N st s (N * N) m' := by
  have hn := sq_le hN
  intro k
  induction k with
  | zero => intro p m z h1 h2; omega
  | succ k ih =>
    intro p m z h1 h2 hM
    rw [pm_X0_markFromEdges_L6]
    by_cases h : p < N * N
    · rw [z_gt h (by omega), z_bd h (by omega), z_cl (show p < 2 ^ 31 by omega), z_1]
      by_cases hp : st p = s
      · rw [if_pos hp, edgesOf_ok hN h hs hed]
        have hun : ∀ c, Ch N st p c → m c = m p := by
          intro c hc
          have hcl := hc.lt hN h
          have hcp := hc.symm hN h
          obtain ⟨q1, q2, q3⟩ := hM c hcl
          obtain ⟨r1, r2, r3⟩ := hM p h
          refine v4_eq q1 r1 (q2.trans (Iff.trans ?_ r2.symm)) (q3.trans (Iff.trans ?_ r3.symm))
          · exact ⟨fun ⟨q, a, b, d, e⟩ => ⟨q, a, b, d.trans hcp, e⟩, fun ⟨q, a, b, d, e⟩ => ⟨q, a, b, d.trans hc, e⟩⟩
          · exact ⟨fun ⟨q, a, b, d, e⟩ => ⟨q, a, b, d.trans hcp, e⟩, fun ⟨q, a, b, d, e⟩ => ⟨q, a, b, d.trans hc, e⟩⟩
        obtain ⟨m', z', e1, e2, e3⟩ := markChain_ok (F := F) (s := z) (mk := ev N s p) hF hN h hnear hun
        show ∃ m'' z'', bd2 (pm_X0_markChain F (N * N) st (6 * (N * N)) near (N * N) m (N * N) z (nI p) (ev N s p)) _ = some (m'', z'') ∧ _
        rw [e1]
        refine ih (p + 1) m' z' h (by omega) ?_
        intro c hc
        obtain ⟨q1, q2, q3⟩ := hM c hc
        by_cases hch : Ch N st p c
        · rw [e2 c hch]
          obtain ⟨v1, v2, v3⟩ := ev_v N s p
          obtain ⟨o1, o2, o3⟩ := v4_or q1 v1
          refine ⟨o1, o2.trans ?_, o3.trans ?_⟩
          · rw [q2, v2]
            constructor
            · rintro (⟨q, a, b, d, e⟩ | e)
              · exact ⟨q, by omega, b, d, e⟩
              · exact ⟨p, Nat.lt_succ_self p, hp, hch, e⟩
            · rintro ⟨q, a, b, d, e⟩
              by_cases hq : q = p
              · subst hq; exact Or.inr e
              · exact Or.inl ⟨q, by omega, b, d, e⟩
          · rw [q3, v3]
            constructor
            · rintro (⟨q, a, b, d, e⟩ | e)
              · exact ⟨q, by omega, b, d, e⟩
              · exact ⟨p, Nat.lt_succ_self p, hp, hch, e⟩
            · rintro ⟨q, a, b, d, e⟩
              by_cases hq : q = p
              · subst hq; exact Or.inr e
              · exact Or.inl ⟨q, by omega, b, d, e⟩
        · rw [e3 c hch]
          refine ⟨q1, q2.trans ⟨fun ⟨q, a, b, d, e⟩ => ⟨q, by omega, b, d, e⟩, fun ⟨q, a, b, d, e⟩ => ⟨q, ?_, b, d, e⟩⟩, q3.trans ⟨fun ⟨q, a, b, d, e⟩ => ⟨q, by omega, b, d, e⟩, fun ⟨q, a, b, d, e⟩ => ⟨q, ?_, b, d, e⟩⟩⟩
          · have : q ≠ p := fun hq => hch (hq ▸ d)
            omega
          · have : q ≠ p := fun hq => hch (hq ▸ d)
            omega
      · rw [if_neg hp]
        refine ih (p + 1) m z h (by omega) ?_
        intro c hc
        obtain ⟨q1, q2, q3⟩ := hM c hc
        refine ⟨q1, q2.trans ⟨fun ⟨q, a, b, d, e⟩ => ⟨q, by omega, b, d, e⟩, fun ⟨q, a, b, d, e⟩ => ⟨q, ?_, b, d, e⟩⟩, q3.trans ⟨fun ⟨q, a, b, d, e⟩ => ⟨q, by omega, b, d, e⟩, fun ⟨q, a, b, d, e⟩ => ⟨q, ?_, b, d, e⟩⟩⟩
        · have : q ≠ p := fun hq => hp (hq ▸ b)
          omega
        · have : q ≠ p := fun hq => hp (hq ▸ b)
          omega
    · have : p = N * N := by omega
      subst this
      rw [z_le (Nat.le_refl _) (by omega)]
      exact ⟨m, z, rfl, hM⟩
theorem markFrom_ok {F N : Nat} {st near ed m z : Nat → Int32} {s : Int32} (hF : 200 < F) (hN : N < 12) (hs : s = 1 ∨ s = 2) (hnear : ∀ c, c < N * N → ∀ k, k < 6 → near (6 * c + k) = nbI N c k) (hed : ∀ c, c < N * N → ed c = edI N c) :
    ∃ m' z', pm_X0_markFromEdges F (N * N) st (6 * (N * N)) near (N * N) ed (N * N) m (N * N) z s = some (m', z') ∧ ME N st s (N * N) m' := by
  have hn := sq_le hN
  rw [pm_X0_markFromEdges, clear_ok (by omega) (by omega)]
  obtain ⟨m', z', e1, e2⟩ := markFrom_L (F := F) (st := st) hF hN hs hnear hed F 0 (fun i => if i < N * N then 0 else m i) z (Nat.zero_le _) (by omega) (by
    intro c hc
    show V4 (if c < N * N then 0 else m c) ∧ (b1 (if c < N * N then 0 else m c) ↔ _) ∧ (b2 (if c < N * N then 0 else m c) ↔ _)
    rw [if_pos hc]
    refine ⟨Or.inl rfl, ⟨fun h => ?_, fun ⟨q, a, _⟩ => by omega⟩, ⟨fun h => ?_, fun ⟨q, a, _⟩ => by omega⟩⟩
    · exact absurd h (by unfold b1; decide)
    · exact absurd h (by unfold b2; decide))
  refine ⟨m', z', ?_, e2⟩
  rw [show nI 0 = (0 : Int32) from nI_0] at e1
  rw [bd1_e, e1, bd2_e]
/-- a chain of the side from its first edge to its last -/
def Won (N : Nat) (st : Nat → Int32) (s : Int32) : Prop := ∃ a b, a < N * N ∧ st a = s ∧ fe N s a = true ∧ Ch N st a b ∧ lst N s b = true
theorem won_of {N : Nat} {st m : Nat → Int32} {s : Int32} (hN : N < 12) (hM : ME N st s (N * N) m) : (∃ c, c < N * N ∧ m c = 3) ↔ Won N st s := by
  constructor
  · rintro ⟨c, hc, h3⟩
    obtain ⟨-, q2, q3⟩ := hM c hc
    obtain ⟨a, a1, a2, a3, a4⟩ := q2.mp (Or.inr h3)
    obtain ⟨b, b1, b2, b3, b4⟩ := q3.mp (Or.inr h3)
    exact ⟨a, b, a1, a2, a4, a3.trans (b3.symm hN b1), b4⟩
  · rintro ⟨a, b, h1, h2, h3, h4, h5⟩
    have hb := h4.lt hN h1
    have hsb : st b = s := h4.same.trans h2
    obtain ⟨q1, q2, q3⟩ := hM b hb
    have x1 := q2.mpr ⟨a, h1, h2, h4, h3⟩
    have x2 := q3.mpr ⟨b, hb, hsb, Ch.rf, h5⟩
    refine ⟨b, hb, ?_⟩
    rcases x1 with x1 | x1
    · rcases x2 with x2 | x2
      · rw [x1] at x2; exact absurd x2 (by decide)
      · exact x2
    · exact x1
theorem wins_L {F n : Nat} {m z : Nat → Int32} (hn : n < 2 ^ 31) : ∀ (k j : Nat), j ≤ n → n < j + k → (∀ c, c < j → m c ≠ 3) → ∃ r, pm_X0_wins_L16 F n m z k (nI j) = some (r, m, z) ∧ ((r = 1 ∧ ∃ c, c < n ∧ m c = 3) ∨ (r = 0 ∧ ¬ ∃ c, c < n ∧ m c = 3)) := by
  intro k
  induction k with
  | zero => intro j h1 h2; omega
  | succ k ih =>
    intro j h1 h2 hj
    rw [pm_X0_wins_L16]
    by_cases h : j < n
    · rw [z_gt h hn, z_bd h hn, z_cl (show j < 2 ^ 31 by omega), z_1]
      by_cases h3 : m j = 3
      · rw [if_pos h3]
        exact ⟨1, rfl, Or.inl ⟨rfl, j, h, h3⟩⟩
      · rw [if_neg h3]
        exact ih (j + 1) h (by omega) (fun c hc => by
          by_cases e : c = j
          · subst e; exact h3
          · exact hj c (by omega))
    · have : j = n := by omega
      subst this
      rw [z_le (Nat.le_refl _) hn]
      exact ⟨0, rfl, Or.inr ⟨rfl, fun ⟨c, h4, h5⟩ => hj c h4 h5⟩⟩
theorem wins_ok {F N : Nat} {st near ed m z : Nat → Int32} {s : Int32} (hF : 200 < F) (hN : N < 12) (hs : s = 1 ∨ s = 2) (hnear : ∀ c, c < N * N → ∀ k, k < 6 → near (6 * c + k) = nbI N c k) (hed : ∀ c, c < N * N → ed c = edI N c) :
    ∃ r m' z', pm_X0_wins F (N * N) st (6 * (N * N)) near (N * N) ed (N * N) m (N * N) z s = some (r, m', z') ∧ ((r = 1 ∧ Won N st s) ∨ (r = 0 ∧ ¬ Won N st s)) := by
  have hn := sq_le hN
  obtain ⟨m', z', e1, e2⟩ := markFrom_ok (F := F) (st := st) (m := m) (z := z) hF hN hs hnear hed
  obtain ⟨r, e3, e4⟩ := wins_L (F := F) (m := m') (z := z') (show N * N < 2 ^ 31 by omega) F 0 (Nat.zero_le _) (by omega) (fun c hc => by omega)
  refine ⟨r, m', z', ?_, ?_⟩
  · rw [pm_X0_wins, e1]
    show pm_X0_wins_L16 F (N * N) m' z' F 0 = _
    rw [z_0, e3]
  · rw [won_of hN e2] at e4
    exact e4
theorem winner_ok {F N : Nat} {st near ed m z : Nat → Int32} (hF : 200 < F) (hN : N < 12) (hnear : ∀ c, c < N * N → ∀ k, k < 6 → near (6 * c + k) = nbI N c k) (hed : ∀ c, c < N * N → ed c = edI N c) :
    ∃ r m' z', pm_X0_winner F (N * N) st (6 * (N * N)) near (N * N) ed (N * N) m (N * N) z = some (r, m', z') ∧ ((r = 1 ∧ Won N st 1) ∨ (r = 2 ∧ ¬ Won N st 1 ∧ Won N st 2) ∨ (r = 0 ∧ ¬ Won N st 1 ∧ ¬ Won N st 2)) := by
  rw [pm_X0_winner]
  obtain ⟨r1, m1, z1, e1, f1⟩ := wins_ok (F := F) (st := st) (m := m) (z := z) (s := 1) hF hN (Or.inl rfl) hnear hed
  rw [e1]
  show ∃ r m' z', (if r1 = 0 then _ else _) = some (r, m', z') ∧ _
  rcases f1 with ⟨rfl, w1⟩ | ⟨rfl, w1⟩
  · rw [if_neg (by decide)]
    exact ⟨1, m1, z1, rfl, Or.inl ⟨rfl, w1⟩⟩
  · rw [if_pos rfl]
    obtain ⟨r2, m2, z2, e2, f2⟩ := wins_ok (F := F) (st := st) (m := m1) (z := z1) (s := 2) hF hN (Or.inr rfl) hnear hed
    rw [e2]
    show ∃ r m' z', (if r2 = 0 then _ else _) = some (r, m', z') ∧ _
    rcases f2 with ⟨rfl, w2⟩ | ⟨rfl, w2⟩
    · rw [if_neg (by decide)]
      exact ⟨2, m2, z2, rfl, Or.inr (Or.inl ⟨rfl, w1, w2⟩)⟩
    · rw [if_pos rfl]
      exact ⟨0, m2, z2, rfl, Or.inr (Or.inr ⟨rfl, w1, w2⟩)⟩
