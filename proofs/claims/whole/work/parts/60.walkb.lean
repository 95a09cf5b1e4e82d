/-! PURE: walk and step on both sides -/
theorem co_sum {A B C D : Nat} (h : A + B = C + D) : co A + co B - co C = co D := by
  have e : nI A + nI B = nI C + nI D := by rw [nI_add, nI_add, h]
  unfold co
  grind
theorem geo3 {d : Nat} (hd : d < 6) : ∀ X Y, 1 ≤ X → 1 ≤ Y → 1 ≤ mX X (pv d) → 1 ≤ mY Y (pv d) → (mX X (pv d) + mX X d = X + mX (mX X (pv d)) (pv (nx d)) ∧ mY Y (pv d) + mY Y d = Y + mY (mY Y (pv d)) (pv (nx d))) ∧ (X + mX X (pv d) = mX X d + mX X (pv (pv d)) ∧ Y + mY Y (pv d) = mY Y d + mY Y (pv (pv d))) := by
  have : d = 0 ∨ d = 1 ∨ d = 2 ∨ d = 3 ∨ d = 4 ∨ d = 5 := by omega
  rcases this with rfl | rfl | rfl | rfl | rfl | rfl
  all_goals
    intro X Y h1 h2 h3 h4
    simp only [mX, mY, dpX, dpY, nx, pv] at *
    omega
theorem lookB {F N X Y X2 Y2 LX LY TX TY : Nat} {st : Nat → Int32} (hN : N < 12) (h0 : 0 < N) (hx : X + X2 = LX + TX) (hy : Y + Y2 = LY + TY) (h1 : TX < 16) (h2 : TY < 16) : pm_X5_lookBeyond F (co X) (co Y) (co X2) (co Y2) (nI N) (N * N) st (co LX) (co LY) = some (co TX, co TY, sd N st TX TY) := by
  rw [pm_X5_lookBeyond, co_sum hx, co_sum hy, xside_ok hN h0 h1 h2, bd1_e]
theorem m_le {X d : Nat} (hd : d < 6) : mX X d ≤ X + 1 ∧ mY X d ≤ X + 1 := by
  have := dp_le hd
  unfold mX mY
  omega
theorem goOn_ok {F N : Nat} {st : Nat → Int32} {w : Nat × Nat × Nat} (hN : N < 12) (h0 : 0 < N) (h : WK N st w) (ht : ts N st w = 1 ∨ ts N st w = 2) :
    pm_X5_goOn F (co w.1) (co w.2.1) (co (mX w.1 w.2.2)) (co (mY w.2.1 w.2.2)) (co (tX w)) (co (tY w)) (ts N st w) (nI N) (N * N) st = some (co (stp N st w).1, co (stp N st w).2.1, co (mX (stp N st w).1 (stp N st w).2.2), co (mY (stp N st w).2.1 (stp N st w).2.2), co (tX (stp N st w)), co (tY (stp N st w)), ts N st (stp N st w)) := by
  have hr := sd_rng ht
  obtain ⟨X, Y, d⟩ := w
  obtain ⟨hd, hX, hY, s1, s2⟩ := h
  change d < 6 at hd
  change 1 ≤ X at hX
  change 1 ≤ Y at hY
  obtain ⟨g1, g2, g3, g4, g5⟩ := geo hd
  obtain ⟨e1, e2, e3, e4⟩ := g5 X Y hX hY hr.1 hr.2.2.1
  obtain ⟨k1, k2⟩ := geo2 hd
  obtain ⟨⟨a1, a2⟩, a3, a4⟩ := geo3 hd X Y hX hY hr.1 hr.2.2.1
  have r1 := sd_rng (Or.inl s1)
  have b1 : X ≤ 13 := by have : X ≤ N + 2 := r1.2.1; omega
  have b2 : Y ≤ 13 := by have : Y ≤ N + 2 := r1.2.2.2; omega
  have b3 : mX X (pv d) ≤ 13 := by have : mX X (pv d) ≤ N + 2 := hr.2.1; omega
  have b4 : mY Y (pv d) ≤ 13 := by have : mY Y (pv d) ≤ N + 2 := hr.2.2.2; omega
  by_cases c : ts N st (X, Y, d) = 1
  · have es : stp N st (X, Y, d) = (mX X (pv d), mY Y (pv d), nx d) := if_pos c
    have m1 := (m_le (X := mX X (pv d)) (show pv (nx d) < 6 by rw [g4]; exact hd)).1
    have m2 := (m_le (X := mY Y (pv d)) (show pv (nx d) < 6 by rw [g4]; exact hd)).2
    rw [pm_X5_goOn, if_pos c, if_pos c, if_pos c, bd1_e, bd1_e, bd4_e, es]
    show bd3 (pm_X5_lookBeyond F (co (mX X (pv d))) (co (mY Y (pv d))) (co (mX X d)) (co (mY Y d)) (nI N) (N * N) st (co X) (co Y)) _ = some (co (mX X (pv d)), co (mY Y (pv d)), co (mX (mX X (pv d)) (nx d)), co (mY (mY Y (pv d)) (nx d)), co (mX (mX X (pv d)) (pv (nx d))), co (mY (mY Y (pv d)) (pv (nx d))), sd N st (mX (mX X (pv d)) (pv (nx d))) (mY (mY Y (pv d)) (pv (nx d))))
    rw [lookB hN h0 a1 a2 (by omega) (by omega), bd3_e, e3, e4]
    rfl
  · have es : stp N st (X, Y, d) = (X, Y, pv d) := if_neg c
    have m1 := (m_le (X := X) k1).1
    have m2 := (m_le (X := Y) k1).2
    rw [pm_X5_goOn, if_neg c, if_neg c, if_neg c, bd1_e, bd1_e, bd4_e, es]
    show bd3 (pm_X5_lookBeyond F (co X) (co Y) (co (mX X (pv d))) (co (mY Y (pv d))) (nI N) (N * N) st (co (mX X d)) (co (mY Y d))) _ = some (co X, co Y, co (mX X (pv d)), co (mY Y (pv d)), co (mX X (pv (pv d))), co (mY Y (pv (pv d))), sd N st (mX X (pv (pv d))) (mY Y (pv (pv d))))
    rw [lookB hN h0 a3 a4 (by omega) (by omega), bd3_e]
    rfl
def fo (N : Nat) (st : Nat → Int32) (j : Nat) : Int32 × Int32 × Int32 × Int32 × Int32 × Int32 × Int32 × Int32 := (nI j, co (wi N st j).1, co (wi N st j).2.1, co (mX (wi N st j).1 (wi N st j).2.2), co (mY (wi N st j).2.1 (wi N st j).2.2), co (tX (wi N st j)), co (tY (wi N st j)), ts N st (wi N st j))
theorem follow_L {F N e wd : Nat} {st : Nat → Int32} (hN : N < 12) (h0 : 0 < N) (hB : FB N st) (he : e ≤ 870) (hz : ts N st (wi N st e) = 0) (hE : ∀ i, i < e → ¬ ts N st (wi N st i) = 0) (hw : wd < 2 ^ 31) :
    ∀ k i, i ≤ e → i ≤ wd → e < i + k → pm_X5_follow_L28 F (nI N) (N * N) st (nI wd) k (nI i) (co (wi N st i).1) (co (wi N st i).2.1) (co (mX (wi N st i).1 (wi N st i).2.2)) (co (mY (wi N st i).2.1 (wi N st i).2.2)) (co (tX (wi N st i))) (co (tY (wi N st i))) (ts N st (wi N st i)) = some (fo N st (if wd ≤ e then wd else e)) := by
  intro k
  induction k with
  | zero => intro i h1 h2 h3; omega
  | succ k ih =>
    intro i h1 h2 h3
    rw [pm_X5_follow_L28]
    by_cases h : i < wd
    · rw [z_gt h hw]
      by_cases hi : i = e
      · subst hi
        rw [if_pos hz, if_neg (show ¬ wd ≤ i by omega)]
        rfl
      · have hn := hE i (by omega)
        rw [if_neg hn, goOn_ok hN h0 (wi_WK h0 hB i (fun j hj => hE j (by omega))) (ts12 hB hn), bd7_e, z_1]
        exact ih (i + 1) (by omega) h (by omega)
    · have : i = wd := by omega
      subst this
      rw [z_le (Nat.le_refl _) hw, if_pos h1]
      rfl
theorem follow_ok {F N e wd : Nat} {st : Nat → Int32} (hF : 1000 < F) (hN : N < 12) (h0 : 0 < N) (hB : FB N st) (he : e ≤ 870) (hz : ts N st (wi N st e) = 0) (hE : ∀ i, i < e → ¬ ts N st (wi N st i) = 0) (hw : wd < 2 ^ 31) :
    pm_X5_follow F (nI N) (N * N) st (nI wd) = some (fo N st (if wd ≤ e then wd else e)) := by
  have q := follow_L (F := F) hN h0 hB he hz hE hw F 0 (by omega) (by omega) (by omega)
  have l := lookB (F := F) (st := st) (X := 2) (Y := 1) (X2 := 1) (Y2 := 2) (LX := 1) (LY := 1) (TX := 2) (TY := 2) hN h0 rfl rfl (by decide) (by decide)
  have c2 : co 2 = 0 := by decide
  have c1 : co 1 = -1 := by decide
  rw [c2, c1] at l
  rw [pm_X5_follow, l, bd3_e]
  have q' : pm_X5_follow_L28 F (nI N) (N * N) st (nI wd) F (nI 0) (co 2) (co 1) (co 1) (co 2) (co 2) (co 2) (sd N st 2 2) = some (fo N st (if wd ≤ e then wd else e)) := q
  rw [show nI 0 = (0 : Int32) from nI_0, c2, c1] at q'
  rw [q']
  rfl
/-! the reference's walk -/
theorem isB_a {F : Nat} {a b u v : Int32} : pm_X7_isBeside F a b (a + u) (b + v) = pm_X7_isBeside 0 0 0 u v := by
  have e1 : a + u - a = u - 0 := by grind
  have e2 : b + v - b = v - 0 := by grind
  unfold pm_X7_isBeside
  rw [e1, e2]
theorem isB_b {F : Nat} {a b p q u v : Int32} : pm_X7_isBeside F (a + p) (b + q) (a + u) (b + v) = pm_X7_isBeside 0 p q u v := by
  have e1 : a + u - (a + p) = u - p := by grind
  have e2 : b + v - (b + q) = v - q := by grind
  unfold pm_X7_isBeside
  rw [e1, e2]
theorem add_inj {a u v : Int32} : a + u = a + v ↔ u = v := by
  constructor
  · intro h; grind
  · intro h; rw [h]
/-- one place of the nine -/
def thB (p q g h u v : Int32) : Bool := decide (pm_X7_isBeside 0 0 0 u v = some 1) && decide (pm_X7_isBeside 0 p q u v = some 1) && !(decide (u = g) && decide (v = h))
theorem isB01 {F : Nat} {a b u v : Int32} : pm_X7_isBeside F a b u v = some 1 ∨ pm_X7_isBeside F a b u v = some 0 := by
  unfold pm_X7_isBeside
  split <;> split <;> first | exact Or.inl rfl | exact Or.inr rfl | (split <;> first | exact Or.inl rfl | exact Or.inr rfl | (split <;> first | exact Or.inl rfl | exact Or.inr rfl))
theorem third_1 {F k : Nat} {a b p q g h u v tx ty : Int32} (hu : ¬ (2 : Int32) ≤ u) : pm_X7_third_L9_2 F a b (a + p) (b + q) (a + g) (b + h) v (k + 1) u tx ty = if thB p q g h u v = true then pm_X7_third_L9_2 F a b (a + p) (b + q) (a + g) (b + h) v k (u + 1) (a + u) (b + v) else pm_X7_third_L9_2 F a b (a + p) (b + q) (a + g) (b + h) v k (u + 1) tx ty := by
  rw [pm_X7_third_L9_2, if_neg hu, isB_a, isB_b]
  unfold thB
  rcases isB01 (F := 0) (a := 0) (b := 0) (u := u) (v := v) with e1 | e1
  · rw [e1, bd1_e, if_neg (show ¬ (1 : Int32) = 0 by decide)]
    rcases isB01 (F := 0) (a := p) (b := q) (u := u) (v := v) with e2 | e2
    · rw [e2, bd1_e, if_neg (show ¬ (1 : Int32) = 0 by decide)]
      by_cases hg : u = g
      · rw [if_pos (add_inj.mpr hg)]
        by_cases hh : v = h
        · rw [if_pos (add_inj.mpr hh)]
          simp [hg, hh]
        · rw [if_neg (fun q => hh (add_inj.mp q))]
          simp [hg, hh]
      · rw [if_neg (fun q => hg (add_inj.mp q))]
        simp [hg]
    · rw [e2, bd1_e, if_pos rfl]
      simp
  · rw [e1, bd1_e, if_pos rfl]
    simp
theorem third_r {F k : Nat} {a b p q g h v tx ty : Int32} : pm_X7_third_L9_2 F a b (a + p) (b + q) (a + g) (b + h) v (k + 4) (-1) tx ty = some (if thB p q g h 1 v = true then (a + 1, b + v) else if thB p q g h 0 v = true then (a + 0, b + v) else if thB p q g h (-1) v = true then (a + (-1), b + v) else (tx, ty)) := by
  have f : ∀ (tx ty : Int32), pm_X7_third_L9_2 F a b (a + p) (b + q) (a + g) (b + h) v (k + 1) 2 tx ty = some (tx, ty) := by
    intro tx ty
    rw [pm_X7_third_L9_2, if_pos (by decide)]
  have e1 : (-1 : Int32) + 1 = 0 := by decide
  have e2 : (0 : Int32) + 1 = 1 := by decide
  have e3 : (1 : Int32) + 1 = 2 := by decide
  rw [third_1 (show ¬ (2 : Int32) ≤ -1 by decide), e1, third_1 (show ¬ (2 : Int32) ≤ 0 by decide), third_1 (show ¬ (2 : Int32) ≤ 0 by decide), e2, third_1 (show ¬ (2 : Int32) ≤ 1 by decide), third_1 (show ¬ (2 : Int32) ≤ 1 by decide), third_1 (show ¬ (2 : Int32) ≤ 1 by decide), e3, f, f, f, f]
  by_cases h1 : thB p q g h 1 v = true
  · simp [h1]
  · by_cases h2 : thB p q g h 0 v = true
    · simp [h1, h2]
    · by_cases h3 : thB p q g h (-1) v = true
      · simp [h1, h2, h3]
      · simp [h1, h2, h3]
def dI (n : Nat) : Int32 := nI n - 1
theorem third_v {F : Nat} {a b p q g h tx ty : Int32} (hF : 10 < F) (P Q : Int32) (hP : P = 1 ∨ P = 0 ∨ P = -1) (hQ : Q = 1 ∨ Q = 0 ∨ Q = -1) (hg : ∀ u v : Int32, (u = 1 ∨ u = 0 ∨ u = -1) → (v = 1 ∨ v = 0 ∨ v = -1) → (thB p q g h u v = true ↔ P = u ∧ Q = v)) : pm_X7_third F a b (a + p) (b + q) (a + g) (b + h) tx ty = some (a + P, b + Q) := by
  obtain ⟨k, rfl⟩ : ∃ k, F = k + 4 := ⟨F - 4, by omega⟩
  have f : ∀ (y : Int32) (j : Nat) (x z : Int32), ¬ (2 : Int32) ≤ y → pm_X7_third_L2 (k + 4) a b (a + p) (b + q) (a + g) (b + h) (j + 1) y x z = bd2 (pm_X7_third_L9_2 (k + 4) a b (a + p) (b + q) (a + g) (b + h) y (k + 4) (-1) x z) fun x' z' => pm_X7_third_L2 (k + 4) a b (a + p) (b + q) (a + g) (b + h) j (y + 1) x' z' := by
    intro y j x z hy
    rw [pm_X7_third_L2, if_neg hy]
  have f2 : ∀ (j : Nat) (x z : Int32), pm_X7_third_L2 (k + 4) a b (a + p) (b + q) (a + g) (b + h) (j + 1) 2 x z = some (x, z) := by
    intro j x z
    rw [pm_X7_third_L2, if_pos (by decide)]
  have e1 : (-1 : Int32) + 1 = 0 := by decide
  have e2 : (0 : Int32) + 1 = 1 := by decide
  have e3 : (1 : Int32) + 1 = 2 := by decide
  have row : ∀ (v x z : Int32), (v = 1 ∨ v = 0 ∨ v = -1) → pm_X7_third_L9_2 (k + 4) a b (a + p) (b + q) (a + g) (b + h) v (k + 4) (-1) x z = some (if Q = v then (a + P, b + Q) else (x, z)) := by
    intro v x z hv
    have h1 := hg 1 v (Or.inl rfl) hv
    have h2 := hg 0 v (Or.inr (Or.inl rfl)) hv
    have h3 := hg (-1) v (Or.inr (Or.inr rfl)) hv
    rw [third_r]
    by_cases hq : Q = v
    · rw [if_pos hq]
      rcases hP with rfl | rfl | rfl
      · rw [if_pos (h1.mpr ⟨rfl, hq⟩), hq]
      · rw [if_neg (fun c => absurd (h1.mp c).1 (by decide)), if_pos (h2.mpr ⟨rfl, hq⟩), hq]
      · rw [if_neg (fun c => absurd (h1.mp c).1 (by decide)), if_neg (fun c => absurd (h2.mp c).1 (by decide)), if_pos (h3.mpr ⟨rfl, hq⟩), hq]
    · rw [if_neg hq, if_neg (fun c => hq (h1.mp c).2), if_neg (fun c => hq (h2.mp c).2), if_neg (fun c => hq (h3.mp c).2)]
  have l : pm_X7_third_L2 (k + 4) a b (a + p) (b + q) (a + g) (b + h) (k + 4) (-1) tx ty = some (a + P, b + Q) := by
    have r1 := row (-1) tx ty (Or.inr (Or.inr rfl))
    have r2 := fun x z => row 0 x z (Or.inr (Or.inl rfl))
    have r3 := fun x z => row 1 x z (Or.inl rfl)
    rw [f (-1) (k + 3) _ _ (by decide), r1, e1]
    rcases hQ with rfl | rfl | rfl
    · rw [if_neg (by decide), bd2_e, f 0 (k + 2) _ _ (by decide), r2, e2, if_neg (by decide), bd2_e, f 1 (k + 1) _ _ (by decide), r3, e3, if_pos rfl, bd2_e, f2]
    · rw [if_neg (by decide), bd2_e, f 0 (k + 2) _ _ (by decide), r2, e2, if_pos rfl, bd2_e, f 1 (k + 1) _ _ (by decide), r3, e3, if_neg (by decide), bd2_e, f2]
    · rw [if_pos rfl, bd2_e, f 0 (k + 2) _ _ (by decide), r2, e2, if_neg (by decide), bd2_e, f 1 (k + 1) _ _ (by decide), r3, e3, if_neg (by decide), bd2_e, f2]
  rw [pm_X7_third, l, bd2_e]
def thAll (d : Nat) (u v : Int32) : Bool := thB (dI (dpX d)) (dI (dpY d)) (dI (dpX (nx d))) (dI (dpY (nx d))) u v == (decide (dI (dpX (pv d)) = u) && decide (dI (dpY (pv d)) = v))
theorem third_all : ∀ d, d < 6 → (thAll d 1 1 && thAll d 1 0 && thAll d 1 (-1) && thAll d 0 1 && thAll d 0 0 && thAll d 0 (-1) && thAll d (-1) 1 && thAll d (-1) 0 && thAll d (-1) (-1)) = true := by decide +kernel
theorem dI3 : ∀ d, d < 6 → (dI (dpX d) = 1 ∨ dI (dpX d) = 0 ∨ dI (dpX d) = -1) ∧ (dI (dpY d) = 1 ∨ dI (dpY d) = 0 ∨ dI (dpY d) = -1) := by decide +kernel
theorem third_ok {F d : Nat} {a b tx ty : Int32} (hF : 10 < F) (hd : d < 6) : pm_X7_third F a b (a + dI (dpX d)) (b + dI (dpY d)) (a + dI (dpX (nx d))) (b + dI (dpY (nx d))) tx ty = some (a + dI (dpX (pv d)), b + dI (dpY (pv d))) := by
  have g := geo hd
  have h3 := dI3 (pv d) g.2.1
  have h := third_all d hd
  simp only [Bool.and_eq_true] at h
  have e : ∀ u v, thAll d u v = true → (thB (dI (dpX d)) (dI (dpY d)) (dI (dpX (nx d))) (dI (dpY (nx d))) u v = true ↔ dI (dpX (pv d)) = u ∧ dI (dpY (pv d)) = v) := by
    intro u v q
    unfold thAll at q
    rw [eq_of_beq q, Bool.and_eq_true, decide_eq_true_eq, decide_eq_true_eq]
  refine third_v hF _ _ h3.1 h3.2 ?_
  rintro u v (rfl | rfl | rfl) (rfl | rfl | rfl)
  · exact e _ _ h.1.1.1.1.1.1.1.1
  · exact e _ _ h.1.1.1.1.1.1.1.2
  · exact e _ _ h.1.1.1.1.1.1.2
  · exact e _ _ h.1.1.1.1.1.2
  · exact e _ _ h.1.1.1.1.2
  · exact e _ _ h.1.1.1.2
  · exact e _ _ h.1.1.2
  · exact e _ _ h.1.2
  · exact e _ _ h.2
theorem co_m {X d : Nat} (hX : 1 ≤ X) : co (mX X d) = co X + dI (dpX d) ∧ co (mY X d) = co X + dI (dpY d) := by
  have f : ∀ n, co (X + n - 1) = co X + dI n := by
    intro n
    have e : nI (X + n - 1) = nI X + nI n - 1 := by rw [nI_add, show (1 : Int32) = nI 1 from by decide, pk_sub (by omega)]
    unfold co dI
    rw [e]
    grind
  exact ⟨f _, f _⟩
theorem third_w {F X Y d : Nat} {tx ty : Int32} (hF : 10 < F) (hd : d < 6) (hX : 1 ≤ X) (hY : 1 ≤ Y) : pm_X7_third F (co X) (co Y) (co (mX X d)) (co (mY Y d)) (co (mX X (nx d))) (co (mY Y (nx d))) tx ty = some (co (mX X (pv d)), co (mY Y (pv d))) := by
  rw [(co_m hX).1, (co_m hY).2, (co_m hX).1, (co_m hY).2, (co_m hX).1, (co_m hY).2]
  exact third_ok hF hd
def lX (w : Nat × Nat × Nat) : Nat := mX w.1 (nx w.2.2)
def lY (w : Nat × Nat × Nat) : Nat := mY w.2.1 (nx w.2.2)
def fm (N : Nat) (st : Nat → Int32) (j : Nat) : Int32 × Int32 × Int32 × Int32 × Int32 × Int32 × Int32 × Int32 × Int32 := (nI (j + 1), co (wi N st j).1, co (wi N st j).2.1, co (mX (wi N st j).1 (wi N st j).2.2), co (mY (wi N st j).2.1 (wi N st j).2.2), co (lX (wi N st j)), co (lY (wi N st j)), co (tX (wi N st j)), co (tY (wi N st j)))
theorem ts_lt {N : Nat} {st : Nat → Int32} {w : Nat × Nat × Nat} (hN : N < 12) (h : WK N st w) : tX w < 16 ∧ tY w < 16 := by
  obtain ⟨hd, hX, hY, s1, s2⟩ := h
  have r1 := sd_rng (Or.inl s1)
  have g := geo hd
  have m1 := (m_le (X := w.1) g.2.1).1
  have m2 := (m_le (X := w.2.1) g.2.1).2
  unfold tX tY
  omega
theorem mgo_ok {F N : Nat} {st : Nat → Int32} {w : Nat × Nat × Nat} (hF : 10 < F) (h : WK N st w) (ht : ts N st w = 1 ∨ ts N st w = 2) :
    ∃ bx', bx' = (if ts N st w = 1 then some (co (tX w), co (tY w), co (mX w.1 w.2.2), co (mY w.2.1 w.2.2), co w.1, co w.2.1) else some (co w.1, co w.2.1, co (tX w), co (tY w), co (mX w.1 w.2.2), co (mY w.2.1 w.2.2))) ∧ bx' = some (co (stp N st w).1, co (stp N st w).2.1, co (mX (stp N st w).1 (stp N st w).2.2), co (mY (stp N st w).2.1 (stp N st w).2.2), co (lX (stp N st w)), co (lY (stp N st w))) := by
  have hr := sd_rng ht
  obtain ⟨X, Y, d⟩ := w
  obtain ⟨hd, hX, hY, s1, s2⟩ := h
  obtain ⟨g1, g2, g3, g4, g5⟩ := geo hd
  obtain ⟨e1, e2, e3, e4⟩ := g5 X Y hX hY hr.1 hr.2.2.1
  refine ⟨_, rfl, ?_⟩
  by_cases c : ts N st (X, Y, d) = 1
  · have es : stp N st (X, Y, d) = (mX X (pv d), mY Y (pv d), nx d) := if_pos c
    rw [if_pos c, es]
    show _ = some (co (mX X (pv d)), co (mY Y (pv d)), co (mX (mX X (pv d)) (nx d)), co (mY (mY Y (pv d)) (nx d)), co (mX (mX X (pv d)) (nx (nx d))), co (mY (mY Y (pv d)) (nx (nx d))))
    rw [e1, e2, e3, e4]
    rfl
  · have es : stp N st (X, Y, d) = (X, Y, pv d) := if_neg c
    rw [if_neg c, es]
    show _ = some (co X, co Y, co (mX X (pv d)), co (mY Y (pv d)), co (mX X (nx (pv d))), co (mY Y (nx (pv d))))
    rw [g3]
    rfl
theorem walked_L {F N e wd : Nat} {st : Nat → Int32} (hF : 1000 < F) (hN : N < 12) (h0 : 0 < N) (hB : FB N st) (he : e ≤ 870) (hz : ts N st (wi N st e) = 0) (hE : ∀ i, i < e → ¬ ts N st (wi N st i) = 0) (hw : wd < 2 ^ 31) :
    ∀ k i, i ≤ e → i ≤ wd → e < i + k → pm_X7_walked_L36 F (nI N) 121 st (nI wd) k (nI (i + 1)) (co (wi N st i).1) (co (wi N st i).2.1) (co (mX (wi N st i).1 (wi N st i).2.2)) (co (mY (wi N st i).2.1 (wi N st i).2.2)) (co (lX (wi N st i))) (co (lY (wi N st i))) (co (tX (wi N st i))) (co (tY (wi N st i))) = some (fm N st (if wd ≤ e then wd else e)) := by
  intro k
  induction k with
  | zero => intro i h1 h2 h3; omega
  | succ k ih =>
    intro i h1 h2 h3
    have hW := wi_WK h0 hB i (fun j hj => hE j (by omega))
    have hlt := ts_lt hN hW
    rw [pm_X7_walked_L36]
    by_cases h : i < wd
    · rw [if_neg (nI_nlt (show i + 1 ≤ wd by omega) hw), mside_ok hN h0 hlt.1 hlt.2, bd1_e]
      by_cases hi : i = e
      · subst hi
        rw [if_pos (show sd N st (tX (wi N st i)) (tY (wi N st i)) = 0 from hz), if_neg (show ¬ wd ≤ i by omega)]
        rfl
      · have hn := hE i (by omega)
        obtain ⟨t, t1, t2⟩ := mgo_ok (F := F) (by omega) hW (ts12 hB hn)
        have hW2 := wi_WK h0 hB (i + 1) (fun j hj => hE j (by omega))
        rw [if_neg (show ¬ sd N st (tX (wi N st i)) (tY (wi N st i)) = 0 from hn), bd1_e]
        rw [show (if sd N st (tX (wi N st i)) (tY (wi N st i)) = 1 then some (co (tX (wi N st i)), co (tY (wi N st i)), co (mX (wi N st i).1 (wi N st i).2.2), co (mY (wi N st i).2.1 (wi N st i).2.2), co (wi N st i).1, co (wi N st i).2.1) else some (co (wi N st i).1, co (wi N st i).2.1, co (tX (wi N st i)), co (tY (wi N st i)), co (mX (wi N st i).1 (wi N st i).2.2), co (mY (wi N st i).2.1 (wi N st i).2.2))) = _ from t1.symm.trans t2, bd6_e]
        rw [show pm_X7_third F (co (stp N st (wi N st i)).1) (co (stp N st (wi N st i)).2.1) (co (mX (stp N st (wi N st i)).1 (stp N st (wi N st i)).2.2)) (co (mY (stp N st (wi N st i)).2.1 (stp N st (wi N st i)).2.2)) (co (lX (stp N st (wi N st i)))) (co (lY (stp N st (wi N st i)))) (co (tX (wi N st i))) (co (tY (wi N st i))) = _ from third_w (by omega) hW2.1 hW2.2.1 hW2.2.2.1, bd2_e, z_1]
        exact ih (i + 1) (by omega) h (by omega)
    · have : i = wd := by omega
      subst this
      have hlt2 : nI i < nI (i + 1) := nI_lt (Nat.lt_succ_self i) (by omega)
      rw [if_pos hlt2, if_pos h1]
      rfl
theorem walked_ok {F N e wd : Nat} {st : Nat → Int32} {tx ty : Int32} (hF : 1000 < F) (hN : N < 12) (h0 : 0 < N) (hB : FB N st) (he : e ≤ 870) (hz : ts N st (wi N st e) = 0) (hE : ∀ i, i < e → ¬ ts N st (wi N st i) = 0) (hw : wd < 2 ^ 31) :
    pm_X7_walked F (nI N) tx ty 121 st (nI wd) = some (fm N st (if wd ≤ e then wd else e)) := by
  have q := walked_L (F := F) hF hN h0 hB he hz hE hw F 0 (by omega) (by omega) (by omega)
  have l := third_w (F := F) (X := 2) (Y := 1) (d := 2) (tx := tx) (ty := ty) (by omega) (by decide) (by decide) (by decide)
  have c2 : co 2 = 0 := by decide
  have c1 : co 1 = -1 := by decide
  have l' : pm_X7_third F (co 2) (co 1) (co 1) (co 2) (co 1) (co 1) tx ty = some (co 2, co 2) := l
  rw [c2, c1] at l'
  rw [pm_X7_walked, l', bd2_e]
  have q' : pm_X7_walked_L36 F (nI N) 121 st (nI wd) F (nI 1) (co 2) (co 1) (co 1) (co 2) (co 1) (co 1) (co 2) (co 2) = some (fm N st (if wd ≤ e then wd else e)) := q
  rw [show nI 1 = (1 : Int32) from by decide, c2, c1] at q'
  rw [q']
  rfl
theorem FB_of {N : Nat} {xs ms : Nat → Int32} (h : BR N xs ms) (hc : cnt (em xs) (N * N) = 0) : FB N xs := by
  intro c hcc
  have h1 := cnt_zero hc c hcc
  have h2 : ¬ xs c = 0 := of_decide_eq_false h1
  rcases (h c hcc).1 with q | q | q
  · exact absurd q h2
  · exact Or.inl q
  · exact Or.inr q
theorem sd_congr {N X Y : Nat} {st st' : Nat → Int32} (he : ∀ i, i < N * N → st' i = st i) : sd N st' X Y = sd N st X Y := by
  unfold sd
  by_cases hi : inn N X Y = true
  · obtain ⟨a, b, c, d⟩ := inn_of hi
    rw [if_pos hi, if_pos hi, he _ (cell_lt (by omega) (by omega))]
  · rw [if_neg hi, if_neg hi]
theorem wi_congr {N : Nat} {st st' : Nat → Int32} (he : ∀ i, i < N * N → st' i = st i) : ∀ n, wi N st' n = wi N st n := by
  intro n
  induction n with
  | zero => rfl
  | succ n ih =>
    show stp N st' (wi N st' n) = stp N st (wi N st n)
    rw [ih]
    unfold stp
    rw [sd_congr he]
theorem walk_both {F N : Nat} {xs ms : Nat → Int32} (a1 a2 a3 a4 a5 a6 a7 b1 b2 b3 b4 b5 b6 b7 b8 : Int32) (hF : 1000 < F) (hN : N < 12) (h0 : 0 < N) (h : BR N xs ms) :
    ∃ r a1' a2' a3' a4' a5' a6' a7' b1' b2' b3' b4' b5' b6' b7' b8', pm_X6_walk F (nI N) (N * N) xs a1 a2 a3 a4 a5 a6 a7 = some (r, a1', a2', a3', a4', a5', a6', a7') ∧ pm_X7_walk F (nI N) (nI (N * N)) b1 b2 b3 b4 b5 b6 b7 b8 121 ms = some (r, b1', b2', b3', b4', b5', b6', b7', b8') := by
  have hn := sq_le hN
  have he : ∀ i, i < N * N → ms i = xs i := fun i hi => (h i hi).2
  have hcl := cnt_le (em xs) (N * N)
  rw [pm_X6_walk, pm_X7_walk, countEmpty_ok (by omega) (by omega), empty_ok (by omega) (by omega) (by omega), bd1_e, bd1_e, cnt_em he]
  by_cases hc : cnt (em xs) (N * N) = 0
  · have hB := FB_of h hc
    have hB2 : FB N ms := fun c hcc => by rw [he c hcc]; exact hB c hcc
    obtain ⟨e, e1, e2, e3⟩ := walk_ends hN h0 hB
    have w := wi_congr (N := N) he
    have tt : ∀ i, ts N ms (wi N ms i) = ts N xs (wi N xs i) := fun i => by
      rw [w]; unfold ts; rw [sd_congr he]
    rw [hc, if_pos (show nI 0 ≤ 0 by rw [nI_0]; decide), if_pos (show nI 0 ≤ 0 by rw [nI_0]; decide), show (1000 : Int32) = nI 1000 from by decide, show (100000 : Int32) = nI 100000 from by decide, follow_ok hF hN h0 hB e1 e2 e3 (by decide), walked_ok hF hN h0 hB2 e1 ((tt e).trans e2) (fun i hi => by rw [tt i]; exact e3 i hi) (by decide), if_neg (show ¬ 1000 ≤ e by omega), if_neg (show ¬ 100000 ≤ e by omega)]
    unfold fo fm
    rw [bd8_e, bd9_e, z_1]
    exact ⟨_, _, _, _, _, _, _, _, _, _, _, _, _, _, _, _, rfl, rfl⟩
  · have hpos : ¬ nI (cnt (em xs) (N * N)) ≤ 0 := by
      rw [z_0]
      exact nI_ge (by omega) (by omega)
    rw [if_neg hpos, if_neg hpos]
    exact ⟨_, _, _, _, _, _, _, _, _, _, _, _, _, _, _, _, rfl, rfl⟩
theorem le2_of {x : Int32} (h0 : ¬ x < 0) (h2 : ¬ (2 : Int32) < x) : x = 0 ∨ x = 1 ∨ x = 2 := by
  refine s3_of h0 ?_
  have b : ¬ (2 : Int32).toInt < x.toInt := fun q => h2 (Int32.lt_iff_toInt_lt.mpr q)
  exact Int32.le_iff_toInt_le.mpr (by omega)
theorem step_both {F N : Nat} {xs ms : Nat → Int32} (a1 a2 a3 a4 a5 a6 a7 b1 b2 b3 b4 b5 b6 b7 b8 x y : Int32) (hF : 1000 < F) (hN : N < 12) (h0 : 0 < N) (h : BR N xs ms) :
    ∃ r a1' a2' a3' a4' a5' a6' a7' b1' b2' b3' b4' b5' b6' b7' b8', pm_X6_step F (nI N) (N * N) xs a1 a2 a3 a4 a5 a6 a7 x y = some (r, a1', a2', a3', a4', a5', a6', a7') ∧ pm_X7_step F (nI N) (nI (N * N)) b1 b2 b3 b4 b5 b6 b7 b8 121 ms x y = some (r, b1', b2', b3', b4', b5', b6', b7', b8') := by
  have hn := sq_le hN
  have he : ∀ i, i < N * N → ms i = xs i := fun i hi => (h i hi).2
  have hcl := cnt_le (em xs) (N * N)
  rw [pm_X6_step, pm_X7_step, countEmpty_ok (by omega) (by omega), empty_ok (by omega) (by omega) (by omega), bd1_e, bd1_e, cnt_em he]
  by_cases hx : x < 0
  · rw [if_pos hx, if_pos hx]
    exact ⟨_, _, _, _, _, _, _, _, _, _, _, _, _, _, _, _, rfl, rfl⟩
  rw [if_neg hx, if_neg hx]
  obtain ⟨wd, hwd, rfl⟩ : ∃ wd, wd < 2 ^ 31 ∧ x = nI wd := by
    have a : ¬ x.toInt < (0 : Int32).toInt := fun q => hx (Int32.lt_iff_toInt_lt.mpr q)
    have e0 : (0 : Int32).toInt = 0 := by decide
    have b := Int32.toInt_lt x
    refine ⟨x.toInt.toNat, by omega, ?_⟩
    apply Int32.toInt_inj.mp
    rw [nI_toInt (by omega)]
    omega
  by_cases hc : cnt (em xs) (N * N) = 0
  · have hB := FB_of h hc
    have hB2 : FB N ms := fun c hcc => by rw [he c hcc]; exact hB c hcc
    obtain ⟨e, e1, e2, e3⟩ := walk_ends hN h0 hB
    have w := wi_congr (N := N) he
    have tt : ∀ i, ts N ms (wi N ms i) = ts N xs (wi N xs i) := fun i => by
      rw [w]; unfold ts; rw [sd_congr he]
    have p0 : ¬ (0 : Int32) < nI 0 := by rw [nI_0]; decide
    rw [hc, if_neg p0, if_neg p0, follow_ok hF hN h0 hB e1 e2 e3 hwd, walked_ok hF hN h0 hB2 e1 ((tt e).trans e2) (fun i hi => by rw [tt i]; exact e3 i hi) hwd]
    by_cases hle : wd ≤ e
    · rw [if_pos hle]
      unfold fo fm
      rw [bd8_e, bd9_e, if_pos rfl, if_pos (z_1 wd).symm, show (1000 : Int32) = nI 1000 from by decide, z_gt (show wd < 1000 by omega) (by decide)]
      by_cases y0 : y < 0
      · have n0 : ¬ y = 0 := fun q => by rw [q] at y0; exact absurd y0 (by decide)
        have n1 : ¬ y = 1 := fun q => by rw [q] at y0; exact absurd y0 (by decide)
        have n2 : ¬ y = 2 := fun q => by rw [q] at y0; exact absurd y0 (by decide)
        rw [if_pos y0, if_neg n0, if_neg n1, if_neg n2]
        exact ⟨_, _, _, _, _, _, _, _, _, _, _, _, _, _, _, _, rfl, rfl⟩
      · by_cases y2 : (2 : Int32) < y
        · have n0 : ¬ y = 0 := fun q => by rw [q] at y2; exact absurd y2 (by decide)
          have n1 : ¬ y = 1 := fun q => by rw [q] at y2; exact absurd y2 (by decide)
          have n2 : ¬ y = 2 := fun q => by rw [q] at y2; exact absurd y2 (by decide)
          rw [if_neg y0, if_pos y2, if_neg n0, if_neg n1, if_neg n2]
          exact ⟨_, _, _, _, _, _, _, _, _, _, _, _, _, _, _, _, rfl, rfl⟩
        · rw [if_neg y0, if_neg y2, w]
          rcases le2_of y0 y2 with rfl | rfl | rfl
          · rw [if_pos rfl, if_pos rfl]
            exact ⟨_, _, _, _, _, _, _, _, _, _, _, _, _, _, _, _, rfl, rfl⟩
          · rw [if_neg (by decide), if_pos rfl, if_neg (by decide), if_pos rfl]
            exact ⟨_, _, _, _, _, _, _, _, _, _, _, _, _, _, _, _, rfl, rfl⟩
          · have hW := wi_WK h0 hB wd (fun j hj => e3 j (by omega))
            have hlt := ts_lt hN hW
            rw [if_neg (by decide), if_neg (by decide), if_pos rfl, if_neg (by decide), if_neg (by decide), mside_ok hN h0 hlt.1 hlt.2, bd1_e, sd_congr he]
            exact ⟨_, _, _, _, _, _, _, _, _, _, _, _, _, _, _, _, rfl, rfl⟩
    · rw [if_neg hle]
      unfold fo fm
      have ne1 : ¬ nI e = nI wd := fun q => hle (by have := (nI_eq (by omega) hwd).mp q; omega)
      have ne2 : ¬ nI (e + 1) = nI wd + 1 := fun q => ne1 (by rw [← z_1] at q; grind)
      rw [bd8_e, bd9_e, if_neg ne1, if_neg ne2]
      have L : ∀ {α : Type} (c : Prop) [Decidable c] (u v : α), (if c then some u else some v) = some (if c then u else v) := by
        intro α c _ u v
        split <;> rfl
      by_cases k1 : (1000 : Int32) ≤ nI wd
      · rw [if_pos k1]
        by_cases y0 : y < 0
        · rw [if_pos y0]; exact ⟨_, _, _, _, _, _, _, _, _, _, _, _, _, _, _, _, rfl, rfl⟩
        · rw [if_neg y0]
          by_cases y2 : (2 : Int32) < y
          · rw [if_pos y2]; exact ⟨_, _, _, _, _, _, _, _, _, _, _, _, _, _, _, _, rfl, rfl⟩
          · rw [if_neg y2]; exact ⟨_, _, _, _, _, _, _, _, _, _, _, _, _, _, _, _, rfl, rfl⟩
      · rw [if_neg k1]
        by_cases y0 : y < 0
        · rw [if_pos y0]; exact ⟨_, _, _, _, _, _, _, _, _, _, _, _, _, _, _, _, rfl, rfl⟩
        · rw [if_neg y0]
          by_cases y2 : (2 : Int32) < y
          · rw [if_pos y2]; exact ⟨_, _, _, _, _, _, _, _, _, _, _, _, _, _, _, _, rfl, rfl⟩
          · rw [if_neg y2]; exact ⟨_, _, _, _, _, _, _, _, _, _, _, _, _, _, _, _, rfl, rfl⟩
  · have hpos : (0 : Int32) < nI (cnt (em xs) (N * N)) := by
      have := nI_lt (show 0 < cnt (em xs) (N * N) by omega) (show cnt (em xs) (N * N) < 2 ^ 31 by omega)
      rwa [nI_0] at this
    rw [if_pos hpos, if_pos hpos]
    by_cases k1 : (1000 : Int32) ≤ nI wd
    · rw [if_pos k1]
      by_cases y0 : y < 0
      · rw [if_pos y0]; exact ⟨_, _, _, _, _, _, _, _, _, _, _, _, _, _, _, _, rfl, rfl⟩
      · rw [if_neg y0]
        by_cases y2 : (2 : Int32) < y
        · rw [if_pos y2]; exact ⟨_, _, _, _, _, _, _, _, _, _, _, _, _, _, _, _, rfl, rfl⟩
        · rw [if_neg y2]; exact ⟨_, _, _, _, _, _, _, _, _, _, _, _, _, _, _, _, rfl, rfl⟩
    · rw [if_neg k1]
      by_cases y0 : y < 0
      · rw [if_pos y0]; exact ⟨_, _, _, _, _, _, _, _, _, _, _, _, _, _, _, _, rfl, rfl⟩
      · rw [if_neg y0]
        by_cases y2 : (2 : Int32) < y
        · rw [if_pos y2]; exact ⟨_, _, _, _, _, _, _, _, _, _, _, _, _, _, _, _, rfl, rfl⟩
        · rw [if_neg y2]; exact ⟨_, _, _, _, _, _, _, _, _, _, _, _, _, _, _, _, rfl, rfl⟩
