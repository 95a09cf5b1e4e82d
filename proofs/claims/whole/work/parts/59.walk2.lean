/-! PURE: the walk ends, and a full board has a winner -/
theorem sd_inn {N X Y : Nat} {st : Nat → Int32} (h : inn N X Y = true) : sd N st X Y = st (N * (Y - 2) + (X - 2)) := by
  unfold sd
  rw [if_pos h]
theorem inn_of {N X Y : Nat} (h : inn N X Y = true) : 2 ≤ X ∧ X < N + 2 ∧ 2 ≤ Y ∧ Y < N + 2 := by
  unfold inn at h
  simp only [Bool.and_eq_true, decide_eq_true_eq] at h
  exact ⟨h.1.1.1, h.1.1.2, h.1.2, h.2⟩
theorem of_inn {N X Y : Nat} (h1 : 2 ≤ X) (h2 : X < N + 2) (h3 : 2 ≤ Y) (h4 : Y < N + 2) : inn N X Y = true := by
  unfold inn
  simp only [Bool.and_eq_true, decide_eq_true_eq]
  exact ⟨⟨⟨h1, h2⟩, h3⟩, h4⟩
theorem one_at {N X Y : Nat} {st : Nat → Int32} (h : sd N st X Y = 1) : (Y = 1 ∧ 2 ≤ X ∧ X ≤ N + 2) ∨ (Y = N + 2 ∧ 1 ≤ X ∧ X ≤ N + 1) ∨ inn N X Y = true := by
  by_cases hi : inn N X Y = true
  · exact Or.inr (Or.inr hi)
  · unfold sd at h
    rw [if_neg hi] at h
    unfold sdo at h
    by_cases c1 : (Y = 1 ∨ Y = N + 2) ∧ 1 ≤ X ∧ X ≤ N + 2 ∧ ¬ (X = Y)
    · omega
    · rw [if_neg c1] at h
      by_cases c2 : (X = 1 ∨ X = N + 2) ∧ 2 ≤ Y ∧ Y ≤ N + 1
      · rw [if_pos c2] at h
        exact absurd h (by decide)
      · rw [if_neg c2] at h
        exact absurd h (by decide)
theorem two_at {N X Y : Nat} {st : Nat → Int32} (h : sd N st X Y = 2) : (X = 1 ∧ 2 ≤ Y ∧ Y ≤ N + 1) ∨ (X = N + 2 ∧ 2 ≤ Y ∧ Y ≤ N + 1) ∨ inn N X Y = true := by
  by_cases hi : inn N X Y = true
  · exact Or.inr (Or.inr hi)
  · unfold sd at h
    rw [if_neg hi] at h
    unfold sdo at h
    by_cases c1 : (Y = 1 ∨ Y = N + 2) ∧ 1 ≤ X ∧ X ≤ N + 2 ∧ ¬ (X = Y)
    · rw [if_pos c1] at h
      exact absurd h (by decide)
    · rw [if_neg c1] at h
      by_cases c2 : (X = 1 ∨ X = N + 2) ∧ 2 ≤ Y ∧ Y ≤ N + 1
      · omega
      · rw [if_neg c2] at h
        exact absurd h (by decide)
def FB (N : Nat) (st : Nat → Int32) : Prop := ∀ c, c < N * N → st c = 1 ∨ st c = 2
theorem sd3 {N X Y : Nat} {st : Nat → Int32} (hB : FB N st) : sd N st X Y = 0 ∨ sd N st X Y = 1 ∨ sd N st X Y = 2 := by
  unfold sd
  by_cases hi : inn N X Y = true
  · rw [if_pos hi]
    obtain ⟨a, b, c, d⟩ := inn_of hi
    exact Or.inr (hB _ (cell_lt (by omega) (by omega)))
  · rw [if_neg hi]
    unfold sdo
    by_cases c1 : (Y = 1 ∨ Y = N + 2) ∧ 1 ≤ X ∧ X ≤ N + 2 ∧ ¬ (X = Y)
    · rw [if_pos c1]; exact Or.inr (Or.inl rfl)
    · rw [if_neg c1]
      by_cases c2 : (X = 1 ∨ X = N + 2) ∧ 2 ≤ Y ∧ Y ≤ N + 1
      · rw [if_pos c2]; exact Or.inr (Or.inr rfl)
      · rw [if_neg c2]; exact Or.inl rfl
theorem sd_rng {N X Y : Nat} {st : Nat → Int32} (h : sd N st X Y = 1 ∨ sd N st X Y = 2) : 1 ≤ X ∧ X ≤ N + 2 ∧ 1 ≤ Y ∧ Y ≤ N + 2 := by
  rcases h with h | h
  · rcases one_at h with q | q | q
    · omega
    · omega
    · have := inn_of q; omega
  · rcases two_at h with q | q | q
    · omega
    · omega
    · have := inn_of q; omega
def tX (w : Nat × Nat × Nat) : Nat := mX w.1 (pv w.2.2)
def tY (w : Nat × Nat × Nat) : Nat := mY w.2.1 (pv w.2.2)
def ts (N : Nat) (st : Nat → Int32) (w : Nat × Nat × Nat) : Int32 := sd N st (tX w) (tY w)
def wi (N : Nat) (st : Nat → Int32) : Nat → Nat × Nat × Nat
  | 0 => (2, 1, 2)
  | i + 1 => stp N st (wi N st i)
theorem wk0 {N : Nat} {st : Nat → Int32} (h0 : 0 < N) : WK N st (2, 1, 2) := by
  refine ⟨by decide, by decide, by decide, ?_, ?_⟩
  · show sd N st 2 1 = 1
    unfold sd
    rw [if_neg (fun q => by have := inn_of q; omega)]
    unfold sdo
    rw [if_pos ⟨Or.inl rfl, by omega, by omega, by omega⟩]
  · show sd N st 1 2 = 2
    unfold sd
    rw [if_neg (fun q => by have := inn_of q; omega)]
    unfold sdo
    rw [if_neg (by omega), if_pos ⟨Or.inl rfl, by omega, by omega⟩]
theorem ts12 {N : Nat} {st : Nat → Int32} {w : Nat × Nat × Nat} (hB : FB N st) (h : ¬ ts N st w = 0) : ts N st w = 1 ∨ ts N st w = 2 := by
  rcases sd3 (X := tX w) (Y := tY w) hB with q | q
  · exact absurd q h
  · exact q
theorem wi_WK {N : Nat} {st : Nat → Int32} (h0 : 0 < N) (hB : FB N st) : ∀ n, (∀ i, i < n → ¬ ts N st (wi N st i) = 0) → WK N st (wi N st n) := by
  intro n
  induction n with
  | zero => intro _; exact wk0 h0
  | succ n ih =>
    intro h
    have hw := ih (fun i hi => h i (by omega))
    have ht := ts12 hB (h n (by omega))
    have hr := sd_rng ht
    exact stp_WK hw hr.1 hr.2.2.1 ht
theorem lft {N : Nat} {st : Nat → Int32} {w : Nat × Nat × Nat} (h : WK N st w) (h1 : 1 ≤ tX w) (h2 : 1 ≤ tY w) : ¬ sd N st (mX (stp N st w).1 (nx (stp N st w).2.2)) (mY (stp N st w).2.1 (nx (stp N st w).2.2)) = 0 := by
  obtain ⟨X, Y, d⟩ := w
  obtain ⟨hd, hX, hY, s1, s2⟩ := h
  obtain ⟨g1, g2, g3, g4, g5⟩ := geo hd
  obtain ⟨e1, e2, e3, e4⟩ := g5 X Y hX hY h1 h2
  unfold stp
  by_cases c : sd N st (mX X (pv d)) (mY Y (pv d)) = 1
  · rw [if_pos c]
    show ¬ sd N st (mX (mX X (pv d)) (nx (nx d))) (mY (mY Y (pv d)) (nx (nx d))) = 0
    rw [e1, e2, show sd N st X Y = 1 from s1]
    decide
  · rw [if_neg c]
    show ¬ sd N st (mX X (nx (pv d))) (mY Y (nx (pv d))) = 0
    rw [g3, show sd N st (mX X d) (mY Y d) = 2 from s2]
    decide
theorem wi_ne {N : Nat} {st : Nat → Int32} (h0 : 0 < N) (hB : FB N st) : ∀ i j, i < j → (∀ k, k < j → ¬ ts N st (wi N st k) = 0) → wi N st i ≠ wi N st j := by
  intro i
  induction i with
  | zero =>
    intro j hj h e
    obtain ⟨j', rfl⟩ : ∃ j', j = j' + 1 := ⟨j - 1, by omega⟩
    have hw := wi_WK h0 hB j' (fun i hi => h i (by omega))
    have hr := sd_rng (ts12 hB (h j' (by omega)))
    have hl := lft hw hr.1 hr.2.2.1
    rw [show stp N st (wi N st j') = (2, 1, 2) from e.symm] at hl
    apply hl
    show sd N st 1 1 = 0
    unfold sd
    rw [if_neg (fun q => by have := inn_of q; omega)]
    unfold sdo
    rw [if_neg (by omega), if_neg (by omega)]
  | succ i ih =>
    intro j hj h e
    obtain ⟨j', rfl⟩ : ∃ j', j = j' + 1 := ⟨j - 1, by omega⟩
    refine ih j' (by omega) (fun k hk => h k (by omega)) ?_
    have a1 := wi_WK h0 hB i (fun k hk => h k (by omega))
    have r1 := sd_rng (ts12 hB (h i (by omega)))
    have a2 := wi_WK h0 hB j' (fun k hk => h k (by omega))
    have r2 := sd_rng (ts12 hB (h j' (by omega)))
    have b1 := bck_stp a1 r1.1 r1.2.2.1
    have b2 := bck_stp a2 r2.1 r2.2.2.1
    rw [← b1, ← b2]
    exact congrArg (bck N st) e
theorem cnt_none {p : Nat → Bool} : ∀ n, (∀ j, j < n → p j = false) → cnt p n = 0 := by
  intro n
  induction n with
  | zero => intro _; rfl
  | succ n ih => intro h; rw [cnt, ih (fun j hj => h j (by omega)), h n (by omega)]; rfl
noncomputable def cl (P : Prop) : Bool := @decide P (Classical.propDecidable _)
theorem cl_t {P : Prop} (h : P) : cl P = true := @decide_eq_true _ (Classical.propDecidable _) h
theorem cl_f {P : Prop} (h : ¬ P) : cl P = false := @decide_eq_false _ (Classical.propDecidable _) h
theorem of_cl {P : Prop} (h : cl P = true) : P := @of_decide_eq_true _ (Classical.propDecidable _) h
theorem cl_e {P Q : Prop} (h : P ↔ Q) : cl P = cl Q := by
  by_cases hp : P
  · rw [cl_t hp, cl_t (h.mp hp)]
  · rw [cl_f hp, cl_f (fun q => hp (h.mpr q))]
theorem pigeon {m n : Nat} {f : Nat → Nat} (h1 : ∀ i, i < n → f i < m) (h2 : ∀ i j, i < j → j < n → f i ≠ f j) : n ≤ m := by
  have key : ∀ k, k ≤ n → cnt (fun v => cl (∃ i, i < k ∧ f i = v)) m = k := by
    intro k
    induction k with
    | zero => intro _; exact cnt_none _ (fun j hj => cl_f (fun ⟨i, hi, _⟩ => by omega))
    | succ k ih =>
      intro hk
      rw [cnt_upd (p := fun v => cl (∃ i, i < k ∧ f i = v)) (c := f k) (h1 k (by omega)) ?_ ?_ ?_, ih (by omega)]
      · exact cl_f (fun ⟨i, hi, e⟩ => h2 i k hi (by omega) e)
      · exact cl_t ⟨k, Nat.lt_succ_self k, rfl⟩
      · intro j hj hne
        refine cl_e ⟨fun ⟨i, hi, e⟩ => ⟨i, ?_, e⟩, fun ⟨i, hi, e⟩ => ⟨i, by omega, e⟩⟩
        have : i ≠ k := fun q => hne (by rw [← e, q])
        omega
  have := cnt_le (fun v => cl (∃ i, i < n ∧ f i = v)) m
  rw [key n (Nat.le_refl _)] at this
  exact this
def cod (N X Y d : Nat) : Nat := 6 * (if Y = 1 then X - 2 else if Y = N + 2 then 12 + (X - 1) else 24 + (11 * (Y - 2) + (X - 2))) + d
def okA (N X Y : Nat) : Prop := (Y = 1 ∧ 2 ≤ X ∧ X ≤ N + 2) ∨ (Y = N + 2 ∧ 1 ≤ X ∧ X ≤ N + 1) ∨ (2 ≤ X ∧ X < N + 2 ∧ 2 ≤ Y ∧ Y < N + 2)
theorem okA_of {N X Y : Nat} {st : Nat → Int32} (h : sd N st X Y = 1) : okA N X Y := by
  rcases one_at h with q | q | q
  · exact Or.inl q
  · exact Or.inr (Or.inl q)
  · exact Or.inr (Or.inr (inn_of q))
theorem cod_lt {N X Y d : Nat} (hN : N < 12) (h0 : 0 < N) (h : okA N X Y) (hd : d < 6) : cod N X Y d < 870 := by
  unfold cod
  unfold okA at h
  rcases h with q | q | q
  · rw [if_pos q.1]; omega
  · rw [if_neg (by omega), if_pos q.1]; omega
  · rw [if_neg (by omega), if_neg (by omega)]; omega
theorem cod_inj {N X Y d X' Y' d' : Nat} (hN : N < 12) (h0 : 0 < N) (h : okA N X Y) (hd : d < 6) (h' : okA N X' Y') (hd' : d' < 6) (e : cod N X Y d = cod N X' Y' d') : X = X' ∧ Y = Y' ∧ d = d' := by
  unfold cod at e
  unfold okA at h h'
  rcases h with q | q | q
  · rw [if_pos q.1] at e
    rcases h' with q' | q' | q'
    · rw [if_pos q'.1] at e; omega
    · rw [if_neg (by omega), if_pos q'.1] at e; omega
    · rw [if_neg (by omega), if_neg (by omega)] at e; omega
  · rw [if_neg (show ¬ Y = 1 by omega), if_pos q.1] at e
    rcases h' with q' | q' | q'
    · rw [if_pos q'.1] at e; omega
    · rw [if_neg (show ¬ Y' = 1 by omega), if_pos q'.1] at e; omega
    · rw [if_neg (show ¬ Y' = 1 by omega), if_neg (show ¬ Y' = N + 2 by omega)] at e; omega
  · rw [if_neg (show ¬ Y = 1 by omega), if_neg (show ¬ Y = N + 2 by omega)] at e
    rcases h' with q' | q' | q'
    · rw [if_pos q'.1] at e; omega
    · rw [if_neg (show ¬ Y' = 1 by omega), if_pos q'.1] at e; omega
    · rw [if_neg (show ¬ Y' = 1 by omega), if_neg (show ¬ Y' = N + 2 by omega)] at e; omega
theorem least_of {P : Nat → Prop} : ∀ n, (∃ i, i ≤ n ∧ P i) → ∃ i, i ≤ n ∧ P i ∧ ∀ j, j < i → ¬ P j := by
  intro n
  induction n with
  | zero =>
    rintro ⟨i, hi, hp⟩
    exact ⟨i, hi, hp, fun j hj => by omega⟩
  | succ n ih =>
    rintro ⟨i, hi, hp⟩
    by_cases h : ∃ i, i ≤ n ∧ P i
    · obtain ⟨k, h1, h2, h3⟩ := ih h
      exact ⟨k, by omega, h2, h3⟩
    · have : i = n + 1 := by
        rcases Nat.lt_or_ge i (n + 1) with q | q
        · exact absurd ⟨i, by omega, hp⟩ h
        · omega
      subst this
      exact ⟨n + 1, Nat.le_refl _, hp, fun j hj hpj => h ⟨j, by omega, hpj⟩⟩
/-- the walk ends -/
theorem walk_ends {N : Nat} {st : Nat → Int32} (hN : N < 12) (h0 : 0 < N) (hB : FB N st) : ∃ e, e ≤ 870 ∧ ts N st (wi N st e) = 0 ∧ ∀ i, i < e → ¬ ts N st (wi N st i) = 0 := by
  refine least_of (P := fun i => ts N st (wi N st i) = 0) 870 ?_
  refine Classical.byContradiction fun hno => ?_
  have hall : ∀ i, i < 871 → ¬ ts N st (wi N st i) = 0 := fun i hi h => hno ⟨i, by omega, h⟩
  have := pigeon (m := 870) (n := 871) (f := fun i => cod N (wi N st i).1 (wi N st i).2.1 (wi N st i).2.2) (fun i hi => by
    have hw := wi_WK h0 hB i (fun k hk => hall k (by omega))
    exact cod_lt hN h0 (okA_of hw.2.2.2.1) hw.1) (fun i j hij hj e => by
    have hw := wi_WK h0 hB i (fun k hk => hall k (by omega))
    have hw2 := wi_WK h0 hB j (fun k hk => hall k (by omega))
    obtain ⟨e1, e2, e3⟩ := cod_inj hN h0 (okA_of hw.2.2.2.1) hw.1 (okA_of hw2.2.2.2.1) hw2.1 e
    exact wi_ne h0 hB i j hij (fun k hk => hall k (by omega)) (Prod.ext e1 (Prod.ext e2 e3)))
  omega
def endB (N X Y d : Nat) : Bool := !(inn N X Y || decide (sdo N X Y = 1)) || !(inn N (mX X d) (mY Y d) || decide (sdo N (mX X d) (mY Y d) = 2)) || inn N (mX X (pv d)) (mY Y (pv d)) || decide (sdo N (mX X (pv d)) (mY Y (pv d)) ≠ 0) || decide (Y = N + 2) || decide (mX X d = N + 2)
theorem end_all : ∀ N, N < 12 → 0 < N → ∀ X, X < 14 → ∀ Y, Y < 14 → ∀ d, d < 6 → endB N X Y d = true := by decide +kernel
def celN (N X Y : Nat) : Nat := N * (Y - 2) + (X - 2)
def adB (N X Y d : Nat) : Bool := !(inn N X Y) || !(inn N (mX X d) (mY Y d)) || (decide (nbr N (celN N X Y) 0 = some (celN N (mX X d) (mY Y d))) || decide (nbr N (celN N X Y) 1 = some (celN N (mX X d) (mY Y d))) || decide (nbr N (celN N X Y) 2 = some (celN N (mX X d) (mY Y d))) || decide (nbr N (celN N X Y) 3 = some (celN N (mX X d) (mY Y d))) || decide (nbr N (celN N X Y) 4 = some (celN N (mX X d) (mY Y d))) || decide (nbr N (celN N X Y) 5 = some (celN N (mX X d) (mY Y d))))
theorem ad_all : ∀ N, N < 12 → 0 < N → ∀ X, X < 14 → ∀ Y, Y < 14 → ∀ d, d < 6 → adB N X Y d = true := by decide +kernel
theorem ad_ok {N X Y d : Nat} (hN : N < 12) (h0 : 0 < N) (hd : d < 6) (h1 : inn N X Y = true) (h2 : inn N (mX X d) (mY Y d) = true) : ∃ k, k < 6 ∧ nbr N (celN N X Y) k = some (celN N (mX X d) (mY Y d)) := by
  have hr := inn_of h1
  have h := ad_all N hN h0 X (by omega) Y (by omega) d hd
  unfold adB at h
  rw [h1, h2] at h
  simp only [Bool.not_true, Bool.false_or, Bool.or_eq_true, decide_eq_true_eq] at h
  rcases h with ((((h | h) | h) | h) | h) | h
  · exact ⟨0, by omega, h⟩
  · exact ⟨1, by omega, h⟩
  · exact ⟨2, by omega, h⟩
  · exact ⟨3, by omega, h⟩
  · exact ⟨4, by omega, h⟩
  · exact ⟨5, by omega, h⟩
def edB (N X Y : Nat) : Bool := !(inn N X Y) || (decide (celN N X Y < N * N) && (!(decide (Y = 2)) || fe N 1 (celN N X Y)) && (!(decide (Y = N + 1)) || lst N 1 (celN N X Y)) && (!(decide (X = 2)) || fe N 2 (celN N X Y)) && (!(decide (X = N + 1)) || lst N 2 (celN N X Y)))
theorem edg_all : ∀ N, N < 12 → 0 < N → ∀ X, X < 14 → ∀ Y, Y < 14 → edB N X Y = true := by decide +kernel
theorem ed_ok {N X Y : Nat} (hN : N < 12) (h0 : 0 < N) (h1 : inn N X Y = true) : celN N X Y < N * N ∧ (Y = 2 → fe N 1 (celN N X Y) = true) ∧ (Y = N + 1 → lst N 1 (celN N X Y) = true) ∧ (X = 2 → fe N 2 (celN N X Y) = true) ∧ (X = N + 1 → lst N 2 (celN N X Y) = true) := by
  have hr := inn_of h1
  have h := edg_all N hN h0 X (by omega) Y (by omega)
  unfold edB at h
  rw [h1] at h
  simp only [Bool.not_true, Bool.false_or, Bool.and_eq_true, Bool.or_eq_true, Bool.not_eq_true', decide_eq_true_eq, decide_eq_false_iff_not] at h
  obtain ⟨⟨⟨⟨a, b⟩, c⟩, d⟩, e⟩ := h
  refine ⟨a, fun q => ?_, fun q => ?_, fun q => ?_, fun q => ?_⟩
  · rcases b with b | b
    · exact absurd q b
    · exact b
  · rcases c with b | b
    · exact absurd q b
    · exact b
  · rcases d with b | b
    · exact absurd q b
    · exact b
  · rcases e with b | b
    · exact absurd q b
    · exact b
/-- joined to the side's first edge -/
def Jn (N : Nat) (st : Nat → Int32) (s : Int32) (X Y : Nat) : Prop := inn N X Y = true ∧ ∃ a, a < N * N ∧ st a = s ∧ fe N s a = true ∧ Ch N st a (celN N X Y)
def J1 (N : Nat) (st : Nat → Int32) (X Y : Nat) : Prop := Y = 1 ∨ Jn N st 1 X Y ∨ Won N st 1
def J2 (N : Nat) (st : Nat → Int32) (X Y : Nat) : Prop := X = 1 ∨ Jn N st 2 X Y ∨ Won N st 2
theorem dp_le {d : Nat} (hd : d < 6) : dpX d ≤ 2 ∧ dpY d ≤ 2 := by
  have : d = 0 ∨ d = 1 ∨ d = 2 ∨ d = 3 ∨ d = 4 ∨ d = 5 := by omega
  rcases this with rfl | rfl | rfl | rfl | rfl | rfl <;> decide
theorem jn_step {N X Y k : Nat} {st : Nat → Int32} {s : Int32} (hN : N < 12) (h0 : 0 < N) (hk : k < 6) (hs : sd N st X Y = s) (hs' : sd N st (mX X k) (mY Y k) = s) (hi : inn N (mX X k) (mY Y k) = true) (h : Jn N st s X Y) : Jn N st s (mX X k) (mY Y k) := by
  obtain ⟨h1, a, a1, a2, a3, a4⟩ := h
  obtain ⟨j, j1, j2⟩ := ad_ok hN h0 hk h1 hi
  refine ⟨hi, a, a1, a2, a3, a4.step ⟨j, j1, j2, ?_⟩⟩
  have q1 := sd_inn (st := st) h1
  have q2 := sd_inn (st := st) hi
  exact (q2.symm.trans hs').trans (hs.symm.trans q1)
theorem j1_step {N X Y k : Nat} {st : Nat → Int32} (hN : N < 12) (h0 : 0 < N) (hk : k < 6) (hX : 1 ≤ X) (hY : 1 ≤ Y) (hs : sd N st X Y = 1) (hs' : sd N st (mX X k) (mY Y k) = 1) (h : J1 N st X Y) : J1 N st (mX X k) (mY Y k) := by
  have hdp := dp_le hk
  have eY : mY Y k = Y + dpY k - 1 := rfl
  rcases one_at hs' with q | q | q
  · exact Or.inl q.1
  · refine Or.inr (Or.inr ?_)
    rcases h with h | h | h
    · omega
    · obtain ⟨h1, a, a1, a2, a3, a4⟩ := h
      have hr := inn_of h1
      exact ⟨a, celN N X Y, a1, a2, a3, a4, (ed_ok hN h0 h1).2.2.1 (by omega)⟩
    · exact h
  · rcases h with h | h | h
    · have hr := inn_of q
      refine Or.inr (Or.inl ⟨q, celN N (mX X k) (mY Y k), (ed_ok hN h0 q).1, ?_, (ed_ok hN h0 q).2.1 (by omega), Ch.rf⟩)
      exact (sd_inn (st := st) q).symm.trans hs'
    · exact Or.inr (Or.inl (jn_step hN h0 hk hs hs' q h))
    · exact Or.inr (Or.inr h)
theorem j2_step {N X Y k : Nat} {st : Nat → Int32} (hN : N < 12) (h0 : 0 < N) (hk : k < 6) (hX : 1 ≤ X) (hY : 1 ≤ Y) (hs : sd N st X Y = 2) (hs' : sd N st (mX X k) (mY Y k) = 2) (h : J2 N st X Y) : J2 N st (mX X k) (mY Y k) := by
  have hdp := dp_le hk
  have eX : mX X k = X + dpX k - 1 := rfl
  rcases two_at hs' with q | q | q
  · exact Or.inl q.1
  · refine Or.inr (Or.inr ?_)
    rcases h with h | h | h
    · omega
    · obtain ⟨h1, a, a1, a2, a3, a4⟩ := h
      have hr := inn_of h1
      exact ⟨a, celN N X Y, a1, a2, a3, a4, (ed_ok hN h0 h1).2.2.2.2 (by omega)⟩
    · exact h
  · rcases h with h | h | h
    · have hr := inn_of q
      refine Or.inr (Or.inl ⟨q, celN N (mX X k) (mY Y k), (ed_ok hN h0 q).1, ?_, (ed_ok hN h0 q).2.2.2.1 (by omega), Ch.rf⟩)
      exact (sd_inn (st := st) q).symm.trans hs'
    · exact Or.inr (Or.inl (jn_step hN h0 hk hs hs' q h))
    · exact Or.inr (Or.inr h)
theorem geo2 {d : Nat} (hd : d < 6) : pv (pv d) < 6 ∧ ∀ X Y, 1 ≤ X → 1 ≤ Y → 1 ≤ mX X d → 1 ≤ mY Y d → mX (mX X d) (pv (pv d)) = mX X (pv d) ∧ mY (mY Y d) (pv (pv d)) = mY Y (pv d) := by
  have : d = 0 ∨ d = 1 ∨ d = 2 ∨ d = 3 ∨ d = 4 ∨ d = 5 := by omega
  rcases this with rfl | rfl | rfl | rfl | rfl | rfl
  all_goals
    refine ⟨by decide, fun X Y h1 h2 h3 h4 => ?_⟩
    simp only [mX, mY, dpX, dpY, nx, pv] at *
    omega
def JW (N : Nat) (st : Nat → Int32) (w : Nat × Nat × Nat) : Prop := J1 N st w.1 w.2.1 ∧ J2 N st (mX w.1 w.2.2) (mY w.2.1 w.2.2)
theorem jw_step {N : Nat} {st : Nat → Int32} {w : Nat × Nat × Nat} (hN : N < 12) (h0 : 0 < N) (h : WK N st w) (ht : ts N st w = 1 ∨ ts N st w = 2) (hj : JW N st w) : JW N st (stp N st w) := by
  have hr := sd_rng ht
  obtain ⟨X, Y, d⟩ := w
  obtain ⟨hd, hX, hY, s1, s2⟩ := h
  obtain ⟨g1, g2, g3, g4, g5⟩ := geo hd
  obtain ⟨e1, e2, e3, e4⟩ := g5 X Y hX hY hr.1 hr.2.2.1
  obtain ⟨k1, k2⟩ := geo2 hd
  have hr2 := sd_rng (Or.inr s2)
  obtain ⟨f1, f2⟩ := k2 X Y hX hY hr2.1 hr2.2.2.1
  unfold stp
  by_cases c : sd N st (mX X (pv d)) (mY Y (pv d)) = 1
  · rw [if_pos c]
    refine ⟨j1_step hN h0 g2 hX hY s1 c hj.1, ?_⟩
    show J2 N st (mX (mX X (pv d)) (nx d)) (mY (mY Y (pv d)) (nx d))
    rw [e3, e4]
    exact hj.2
  · rw [if_neg c]
    have ht2 : sd N st (mX X (pv d)) (mY Y (pv d)) = 2 := by
      rcases ht with q | q
      · exact absurd q c
      · exact q
    refine ⟨hj.1, ?_⟩
    have := j2_step hN h0 k1 hr2.1 hr2.2.2.1 s2 (by show sd N st (mX (mX X d) (pv (pv d))) (mY (mY Y d) (pv (pv d))) = 2; rw [f1, f2]; exact ht2) hj.2
    show J2 N st (mX X (pv d)) (mY Y (pv d))
    rw [← f1, ← f2]
    exact this
/-- a full board has a winner -/
theorem full_won {N : Nat} {st : Nat → Int32} (hN : N < 12) (h0 : 0 < N) (hB : FB N st) : Won N st 1 ∨ Won N st 2 := by
  obtain ⟨e, -, h1, h2⟩ := walk_ends hN h0 hB
  have hw := wi_WK h0 hB e h2
  have hj : ∀ n, n ≤ e → JW N st (wi N st n) := by
    intro n
    induction n with
    | zero => intro _; exact ⟨Or.inl rfl, Or.inl rfl⟩
    | succ n ih => intro hn; exact jw_step hN h0 (wi_WK h0 hB n (fun i hi => h2 i (by omega))) (ts12 hB (h2 n (by omega))) (ih (by omega))
  have hje := hj e (Nat.le_refl _)
  revert h1 hw hje
  generalize wi N st e = w
  intro h1 hw hje
  obtain ⟨X, Y, d⟩ := w
  obtain ⟨hd, hX, hY, s1, s2⟩ := hw
  have r1 := sd_rng (Or.inl s1)
  have r2 := sd_rng (Or.inr s2)
  have hend := end_all N hN h0 X (by have : X ≤ N + 2 := r1.2.1; omega) Y (by have : Y ≤ N + 2 := r1.2.2.2; omega) d hd
  have p1 : (inn N X Y || decide (sdo N X Y = 1)) = true := by
    by_cases hi : inn N X Y = true
    · rw [hi]; rfl
    · have : sd N st X Y = 1 := s1
      unfold sd at this
      rw [if_neg hi] at this
      rw [this]; simp
  have p2 : (inn N (mX X d) (mY Y d) || decide (sdo N (mX X d) (mY Y d) = 2)) = true := by
    by_cases hi : inn N (mX X d) (mY Y d) = true
    · rw [hi]; rfl
    · have : sd N st (mX X d) (mY Y d) = 2 := s2
      unfold sd at this
      rw [if_neg hi] at this
      rw [this]; simp
  have h1' : sd N st (mX X (pv d)) (mY Y (pv d)) = 0 := h1
  have p3 : inn N (mX X (pv d)) (mY Y (pv d)) = false := by
    by_cases hi : inn N (mX X (pv d)) (mY Y (pv d)) = true
    · rw [sd_inn hi] at h1'
      obtain ⟨a, b, c, f⟩ := inn_of hi
      rcases hB _ (cell_lt (N := N) (show mY Y (pv d) - 2 < N by omega) (show mX X (pv d) - 2 < N by omega)) with q | q
      · rw [q] at h1'; exact absurd h1' (by decide)
      · rw [q] at h1'; exact absurd h1' (by decide)
    · exact Bool.eq_false_iff.mpr hi
  have p4 : sdo N (mX X (pv d)) (mY Y (pv d)) = 0 := by
    unfold sd at h1'
    rw [if_neg (by rw [p3]; decide)] at h1'
    exact h1'
  unfold endB at hend
  rw [p1, p2, p3, p4] at hend
  simp only [Bool.not_true, Bool.false_or, Bool.or_eq_true, decide_eq_true_eq, ne_eq, not_true, decide_false, Bool.or_false] at hend
  rcases hend with q | q
  · left
    rcases hje.1 with a | a | a
    · have : Y = 1 := a
      omega
    · have := inn_of a.1
      have e1 : (X, Y, d).2.1 = Y := rfl
      omega
    · exact a
  · right
    rcases hje.2 with a | a | a
    · have : mX X d = 1 := a
      omega
    · have := inn_of a.1
      have e1 : mX (X, Y, d).1 (X, Y, d).2.2 = mX X d := rfl
      omega
    · exact a
