/-! PURE: the walk's states: the cell of side 1 (shifted by 2), and the direction of the cell of side 2 from it -/
def dpX (d : Nat) : Nat := match d with
  | 0 => 2
  | 1 => 1
  | 2 => 0
  | 3 => 0
  | 4 => 1
  | _ => 2
def dpY (d : Nat) : Nat := match d with
  | 0 => 1
  | 1 => 2
  | 2 => 2
  | 3 => 1
  | 4 => 0
  | _ => 0
def mX (X d : Nat) : Nat := X + dpX d - 1
def mY (Y d : Nat) : Nat := Y + dpY d - 1
def nx (d : Nat) : Nat := match d with
  | 0 => 1
  | 1 => 2
  | 2 => 3
  | 3 => 4
  | 4 => 5
  | _ => 0
def pv (d : Nat) : Nat := match d with
  | 0 => 5
  | 1 => 0
  | 2 => 1
  | 3 => 2
  | 4 => 3
  | _ => 4
theorem geo {d : Nat} (hd : d < 6) : nx d < 6 ∧ pv d < 6 ∧ nx (pv d) = d ∧ pv (nx d) = d ∧ ∀ X Y, 1 ≤ X → 1 ≤ Y → mX X (pv d) ≥ 1 → mY Y (pv d) ≥ 1 → mX (mX X (pv d)) (nx (nx d)) = X ∧ mY (mY Y (pv d)) (nx (nx d)) = Y ∧ mX (mX X (pv d)) (nx d) = mX X d ∧ mY (mY Y (pv d)) (nx d) = mY Y d := by
  have : d = 0 ∨ d = 1 ∨ d = 2 ∨ d = 3 ∨ d = 4 ∨ d = 5 := by omega
  rcases this with rfl | rfl | rfl | rfl | rfl | rfl
  all_goals
    refine ⟨by decide, by decide, by decide, by decide, fun X Y h1 h2 h3 h4 => ?_⟩
    simp only [mX, mY, dpX, dpY, nx, pv] at *
    omega
def stp (N : Nat) (st : Nat → Int32) (w : Nat × Nat × Nat) : Nat × Nat × Nat := if sd N st (mX w.1 (pv w.2.2)) (mY w.2.1 (pv w.2.2)) = 1 then (mX w.1 (pv w.2.2), mY w.2.1 (pv w.2.2), nx w.2.2) else (w.1, w.2.1, pv w.2.2)
def bck (N : Nat) (st : Nat → Int32) (w : Nat × Nat × Nat) : Nat × Nat × Nat := if sd N st (mX w.1 (nx w.2.2)) (mY w.2.1 (nx w.2.2)) = 1 then (mX w.1 (nx w.2.2), mY w.2.1 (nx w.2.2), pv w.2.2) else (w.1, w.2.1, nx w.2.2)
/-- a state that is gone through: side 1 here, side 2 there -/
def WK (N : Nat) (st : Nat → Int32) (w : Nat × Nat × Nat) : Prop := w.2.2 < 6 ∧ 1 ≤ w.1 ∧ 1 ≤ w.2.1 ∧ sd N st w.1 w.2.1 = 1 ∧ sd N st (mX w.1 w.2.2) (mY w.2.1 w.2.2) = 2
theorem bck_stp {N : Nat} {st : Nat → Int32} {w : Nat × Nat × Nat} (h : WK N st w) (h1 : 1 ≤ mX w.1 (pv w.2.2)) (h2 : 1 ≤ mY w.2.1 (pv w.2.2)) : bck N st (stp N st w) = w := by
  obtain ⟨X, Y, d⟩ := w
  obtain ⟨hd, hX, hY, s1, s2⟩ := h
  obtain ⟨g1, g2, g3, g4, g5⟩ := geo hd
  obtain ⟨e1, e2, e3, e4⟩ := g5 X Y hX hY h1 h2
  unfold stp
  by_cases c : sd N st (mX X (pv d)) (mY Y (pv d)) = 1
  · rw [if_pos c]
    show (if sd N st (mX (mX X (pv d)) (nx (nx d))) (mY (mY Y (pv d)) (nx (nx d))) = 1 then (mX (mX X (pv d)) (nx (nx d)), mY (mY Y (pv d)) (nx (nx d)), pv (nx d)) else _) = (X, Y, d)
    rw [e1, e2, g4, if_pos s1]
  · rw [if_neg c]
    show (if sd N st (mX X (nx (pv d))) (mY Y (nx (pv d))) = 1 then _ else (X, Y, nx (pv d))) = (X, Y, d)
    rw [g3]
    rw [if_neg (by show ¬ sd N st (mX X d) (mY Y d) = 1; rw [s2]; decide)]
theorem stp_WK {N : Nat} {st : Nat → Int32} {w : Nat × Nat × Nat} (h : WK N st w) (h1 : 1 ≤ mX w.1 (pv w.2.2)) (h2 : 1 ≤ mY w.2.1 (pv w.2.2)) (hs : sd N st (mX w.1 (pv w.2.2)) (mY w.2.1 (pv w.2.2)) = 1 ∨ sd N st (mX w.1 (pv w.2.2)) (mY w.2.1 (pv w.2.2)) = 2) : WK N st (stp N st w) := by
  obtain ⟨X, Y, d⟩ := w
  obtain ⟨hd, hX, hY, s1, s2⟩ := h
  obtain ⟨g1, g2, g3, g4, g5⟩ := geo hd
  obtain ⟨e1, e2, e3, e4⟩ := g5 X Y hX hY h1 h2
  unfold stp
  by_cases c : sd N st (mX X (pv d)) (mY Y (pv d)) = 1
  · rw [if_pos c]
    refine ⟨g1, h1, h2, c, ?_⟩
    show sd N st (mX (mX X (pv d)) (nx d)) (mY (mY Y (pv d)) (nx d)) = 2
    rw [e3, e4]
    exact s2
  · rw [if_neg c]
    refine ⟨g2, hX, hY, s1, ?_⟩
    rcases hs with q | q
    · exact absurd q c
    · exact q
