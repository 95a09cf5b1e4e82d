/-! PURE: the reference's winners -/
def fc (N : Nat) (s : Int32) (k : Nat) : Nat := if s = 1 then k else N * k
def lc (N : Nat) (s : Int32) (k : Nat) : Nat := if s = 1 then N * N - N + k else N * k + N - 1
theorem edge_all : ∀ N, N < 12 → ∀ k, k < N → (fc N 1 k < N * N ∧ fe N 1 (fc N 1 k) = true ∧ lc N 1 k < N * N ∧ lst N 1 (lc N 1 k) = true) ∧ (fc N 2 k < N * N ∧ fe N 2 (fc N 2 k) = true ∧ lc N 2 k < N * N ∧ lst N 2 (lc N 2 k) = true) := by decide +kernel
def kf (N : Nat) (s : Int32) (c : Nat) : Nat := if s = 1 then c else c / N
def kl (N : Nat) (s : Int32) (c : Nat) : Nat := if s = 1 then c - (N * N - N) else c / N
def eiB (N : Nat) (s : Int32) (c : Nat) : Bool := (!(fe N s c) || (decide (kf N s c < N) && decide (fc N s (kf N s c) = c))) && (!(lst N s c) || (decide (kl N s c < N) && decide (lc N s (kl N s c) = c)))
theorem edge_inv : ∀ N, N < 12 → ∀ c, c < N * N → eiB N 1 c = true ∧ eiB N 2 c = true := by decide +kernel
theorem eiB_s {N c : Nat} {s : Int32} (h : eiB N s c = true) : (fe N s c = true → kf N s c < N ∧ fc N s (kf N s c) = c) ∧ (lst N s c = true → kl N s c < N ∧ lc N s (kl N s c) = c) := by
  unfold eiB at h
  simp only [Bool.and_eq_true, Bool.or_eq_true, Bool.not_eq_true', decide_eq_true_eq] at h
  refine ⟨fun h1 => ?_, fun h1 => ?_⟩
  · rcases h.1 with q | q
    · rw [h1] at q; cases q
    · exact q
  · rcases h.2 with q | q
    · rw [h1] at q; cases q
    · exact q
theorem edge_s {N k : Nat} {s : Int32} (hN : N < 12) (hk : k < N) (hs : s = 1 ∨ s = 2) : fc N s k < N * N ∧ fe N s (fc N s k) = true ∧ lc N s k < N * N ∧ lst N s (lc N s k) = true := by
  rcases hs with rfl | rfl
  · exact (edge_all N hN k hk).1
  · exact (edge_all N hN k hk).2
theorem edge_i {N c : Nat} {s : Int32} (hN : N < 12) (hc : c < N * N) (hs : s = 1 ∨ s = 2) : (fe N s c = true → kf N s c < N ∧ fc N s (kf N s c) = c) ∧ (lst N s c = true → kl N s c < N ∧ lc N s (kl N s c) = c) := by
  rcases hs with rfl | rfl
  · exact eiB_s (edge_inv N hN c hc).1
  · exact eiB_s (edge_inv N hN c hc).2
theorem fc_I {N k : Nat} {s : Int32} : (if s = (1 : Int32) then some (nI k) else some (nI N * nI k)) = some (nI (fc N s k)) := by
  unfold fc
  by_cases h : s = 1
  · rw [if_pos h, if_pos h]
  · rw [if_neg h, if_neg h, pk_mul]
theorem lc_I {N k : Nat} {s : Int32} (hN : 0 < N) : (if s = (1 : Int32) then some ((nI (N * N) - nI N) + nI k) else some (((nI N * nI k) + nI N) - (1 : Int32))) = some (nI (lc N s k)) := by
  unfold lc
  by_cases h : s = 1
  · rw [if_pos h, if_pos h, pk_sub (Nat.le_mul_of_pos_right N hN), nI_add]
  · rw [if_neg h, if_neg h, pk_mul, nI_add, show (1 : Int32) = nI 1 from by decide, pk_sub (by omega)]
def Seed (N : Nat) (st : Nat → Int32) (s : Int32) (a : Nat) : Prop := a < N * N ∧ st a = s ∧ fe N s a = true
theorem isWon_L6 {F N : Nat} {st : Nat → Int32} {s : Int32} (hN : N < 12) (hs : s = 1 ∨ s = 2) :
    ∀ (k j w : Nat) (seen wave : Nat → Int32), j ≤ N → N < j + k → BF N st s (Seed N st s) w seen wave → (∀ i, i < j → st (fc N s i) = s → seen (fc N s i) = 1) →
    ∃ w' seen' wave', pm_X7_isWon_L6 F (nI N) 121 st 121 121 s k (nI j) (nI w) seen wave = some (nI w', seen', wave') ∧ BF N st s (Seed N st s) w' seen' wave' ∧ ∀ i, i < N → st (fc N s i) = s → seen' (fc N s i) = 1 := by
  have hn := sq_le hN
  intro k
  induction k with
  | zero => intro j w seen wave h1 h2; omega
  | succ k ih =>
    intro j w seen wave h1 h2 hB hj
    rw [pm_X7_isWon_L6]
    by_cases h : j < N
    · obtain ⟨q1, q2, -, -⟩ := edge_s hN h hs
      rw [z_gt h (by omega), fc_I, bd1_e, z_bd (show fc N s j < 121 by omega) (by omega), z_cl (show fc N s j < 2 ^ 31 by omega), z_1]
      by_cases hst : st (fc N s j) = s
      · obtain ⟨w1, seen1, wave1, r1, r2, r3, r4, r5, r6⟩ := reach_ok (F := F) hN q1 hst ⟨fc N s j, ⟨q1, hst, q2⟩, Ch.rf⟩ hB
        rw [if_pos hst, r1, bd3_e]
        exact ih (j + 1) w1 seen1 wave1 h (by omega) r2 (fun i hi hsi => by
          by_cases e : i = j
          · subst e; exact r3
          · exact r6 _ (hj i (by omega) hsi))
      · rw [if_neg hst]
        exact ih (j + 1) w seen wave h (by omega) hB (fun i hi hsi => by
          by_cases e : i = j
          · subst e; exact absurd hsi hst
          · exact hj i (by omega) hsi)
    · have : j = N := by omega
      subst this
      rw [z_le (Nat.le_refl _) (by omega)]
      exact ⟨w, seen, wave, rfl, hB, hj⟩
theorem isWon_L60 {F N : Nat} {seen : Nat → Int32} {s : Int32} (hN : N < 12) (hs : s = 1 ∨ s = 2) (h01 : ∀ c, c < N * N → seen c = 0 ∨ seen c = 1) :
    ∀ (k j : Nat) (x : Int32), j ≤ N → N < j + k → ((x = 1 ∧ ∃ i, i < j ∧ seen (lc N s i) = 1) ∨ (x = 0 ∧ ∀ i, i < j → ¬ seen (lc N s i) = 1)) →
    ∃ r, pm_X7_isWon_L60 F (nI N) (nI (N * N)) 121 s seen k x (nI j) = some r ∧ ((r = 1 ∧ ∃ i, i < N ∧ seen (lc N s i) = 1) ∨ (r = 0 ∧ ∀ i, i < N → ¬ seen (lc N s i) = 1)) := by
  have hn := sq_le hN
  intro k
  induction k with
  | zero => intro j x h1 h2; omega
  | succ k ih =>
    intro j x h1 h2 hx
    rw [pm_X7_isWon_L60]
    by_cases h : j < N
    · obtain ⟨-, -, q1, q2⟩ := edge_s hN h hs
      rw [z_gt h (by omega), lc_I (by omega), bd1_e, z_bd (show lc N s j < 121 by omega) (by omega), z_cl (show lc N s j < 2 ^ 31 by omega), z_1]
      refine ih (j + 1) _ h (by omega) ?_
      rcases h01 _ q1 with e | e
      · rw [e]
        rcases hx with ⟨rfl, i, i1, i2⟩ | ⟨rfl, i1⟩
        · exact Or.inl ⟨by decide, i, by omega, i2⟩
        · refine Or.inr ⟨by decide, fun i hi => ?_⟩
          by_cases ei : i = j
          · subst ei; rw [e]; decide
          · exact i1 i (by omega)
      · rw [e]
        refine Or.inl ⟨?_, j, Nat.lt_succ_self j, e⟩
        rcases hx with ⟨rfl, -⟩ | ⟨rfl, -⟩ <;> decide
    · have : j = N := by omega
      subst this
      rw [z_le (Nat.le_refl _) (by omega)]
      exact ⟨x, rfl, hx⟩
theorem cnt_all {p : Nat → Bool} : ∀ n, (∀ j, j < n → p j = true) → cnt p n = n := by
  intro n
  induction n with
  | zero => intro _; rfl
  | succ n ih => intro h; rw [cnt, ih (fun j hj => h j (by omega)), h n (by omega)]; simp
theorem BF_0 {N : Nat} {st seen wave : Nat → Int32} {s : Int32} {Sd : Nat → Prop} (hN : N < 12) : BF N st s Sd 0 (fun i => if i < 121 then 0 else seen i) wave := by
  have hn := sq_le hN
  refine ⟨fun i hi => by omega, fun c hc => Or.inl (if_pos (by omega)), ?_⟩
  have e : cnt (sn (fun i => if i < 121 then 0 else seen i)) (N * N) = N * N := cnt_all _ (fun j hj => decide_eq_true (if_pos (show j < 121 by omega)))
  omega
theorem isWon_ok {F N : Nat} {st seen wave : Nat → Int32} {s : Int32} (hF : 200 < F) (hN : N < 12) (h0 : 0 < N) (hs : s = 1 ∨ s = 2) :
    ∃ r w seen' wave', pm_X7_isWon F (nI N) (nI (N * N)) 121 st 121 seen 121 wave s = some (r, nI w, seen', wave') ∧ ((r = 1 ∧ Won N st s) ∨ (r = 0 ∧ ¬ Won N st s)) := by
  have hn := sq_le hN
  rw [pm_X7_isWon, forget_ok (by omega) (by omega) (by omega), bd2_e]
  obtain ⟨w1, seen1, wave1, q1, q2, q3⟩ := isWon_L6 (F := F) (st := st) (s := s) hN hs F 0 0 (fun i => if i < 121 then 0 else seen i) wave (Nat.zero_le _) (by omega) (BF_0 hN) (fun i hi => by omega)
  rw [show nI 0 = (0 : Int32) from nI_0] at q1
  rw [q1, bd3_e]
  obtain ⟨w2, seen2, wave2, r1, r2⟩ := spread_ok (F := F) hF hN q2 (fun a ha => ⟨ha.1, by
    obtain ⟨k1, k2⟩ := (edge_i hN ha.1 hs).1 ha.2.2
    have := q3 (kf N s a) k1 (by rw [k2]; exact ha.2.1)
    rw [k2] at this
    exact this⟩)
  rw [r1, bd3_e]
  obtain ⟨r, p1, p2⟩ := isWon_L60 (F := F) hN hs (fun c hc => (r2 c hc).1) F 0 0 (Nat.zero_le _) (by omega) (Or.inr ⟨rfl, fun i hi => by omega⟩)
  rw [show nI 0 = (0 : Int32) from nI_0] at p1
  rw [p1, bd1_e]
  have hW : (∃ i, i < N ∧ seen2 (lc N s i) = 1) ↔ Won N st s := by
    constructor
    · rintro ⟨i, i1, i2⟩
      obtain ⟨-, -, e1, e2⟩ := edge_s hN i1 hs
      obtain ⟨a, a1, a2⟩ := (r2 _ e1).2.mp i2
      exact ⟨a, lc N s i, a1.1, a1.2.1, a1.2.2, a2, e2⟩
    · rintro ⟨a, b, h1, h2, h3, h4, h5⟩
      have hb := h4.lt hN h1
      obtain ⟨k1, k2⟩ := (edge_i hN hb hs).2 h5
      exact ⟨kl N s b, k1, by rw [k2]; exact (r2 b hb).2.mpr ⟨a, ⟨h1, h2, h3⟩, h4⟩⟩
  rcases p2 with ⟨rfl, p3⟩ | ⟨rfl, p3⟩
  · rw [if_pos (Or.inr rfl)]
    exact ⟨1, w2, seen2, wave2, rfl, Or.inl ⟨rfl, hW.mp p3⟩⟩
  · rw [if_pos (Or.inl rfl)]
    exact ⟨0, w2, seen2, wave2, rfl, Or.inr ⟨rfl, fun hw => by obtain ⟨i, i1, i2⟩ := hW.mpr hw; exact p3 i i1 i2⟩⟩
theorem mwinner_ok {F N : Nat} {st seen wave : Nat → Int32} (hF : 200 < F) (hN : N < 12) (h0 : 0 < N) :
    ∃ r w seen' wave', pm_X7_winner F (nI N) (nI (N * N)) 121 st 121 seen 121 wave = some (r, nI w, seen', wave') ∧ ((r = 1 ∧ Won N st 1) ∨ (r = 2 ∧ ¬ Won N st 1 ∧ Won N st 2) ∨ (r = 0 ∧ ¬ Won N st 1 ∧ ¬ Won N st 2)) := by
  rw [pm_X7_winner]
  obtain ⟨r1, w1, m1, z1, e1, f1⟩ := isWon_ok (F := F) (st := st) (seen := seen) (wave := wave) (s := 1) hF hN h0 (Or.inl rfl)
  rw [e1, bd4_e]
  rcases f1 with ⟨rfl, g1⟩ | ⟨rfl, g1⟩
  · rw [if_neg (by decide)]
    exact ⟨1, w1, m1, z1, rfl, Or.inl ⟨rfl, g1⟩⟩
  · rw [if_pos rfl]
    obtain ⟨r2, w2, m2, z2, e2, f2⟩ := isWon_ok (F := F) (st := st) (seen := m1) (wave := z1) (s := 2) hF hN h0 (Or.inr rfl)
    rw [e2, bd4_e]
    rcases f2 with ⟨rfl, g2⟩ | ⟨rfl, g2⟩
    · rw [if_neg (by decide)]
      exact ⟨2, w2, m2, z2, rfl, Or.inr (Or.inl ⟨rfl, g1, g2⟩)⟩
    · rw [if_pos rfl]
      exact ⟨0, w2, m2, z2, rfl, Or.inr (Or.inr ⟨rfl, g1, g2⟩)⟩
