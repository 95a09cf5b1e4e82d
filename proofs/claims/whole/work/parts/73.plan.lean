/-! PURE: what a strategy goes through -/
def og (fs wn : Int32) (k : Nat) : Int32 := if sdl fs k = wn then 1 else 0
theorem sd_flip {s wn : Int32} (hs : s = 1 ∨ s = 2) (hw : wn = 1 ∨ wn = 2) : (3 - s = wn ↔ ¬ s = wn) := by
  rcases hs with rfl | rfl <;> rcases hw with rfl | rfl <;> decide
theorem og_s {fs wn : Int32} (hfs : fs = 1 ∨ fs = 2) (hw : wn = 1 ∨ wn = 2) (k : Nat) : (if og fs wn k = 0 then some (1 : Int32) else some 0) = some (og fs wn (k + 1)) := by
  have h := sd_flip (sdl_12 hfs k) hw
  rw [sdl_s] at h
  unfold og
  by_cases e : sdl fs k = wn
  · rw [if_pos e, if_neg (show ¬ (1 : Int32) = 0 by decide), if_neg (fun q => h.mp q e)]
  · rw [if_neg e, if_pos rfl, if_pos (h.mpr e)]
theorem og_p {fs wn : Int32} (hfs : fs = 1 ∨ fs = 2) (hw : wn = 1 ∨ wn = 2) (k : Nat) : (if og fs wn (k + 1) = 0 then some (1 : Int32) else some 0) = some (og fs wn k) := by
  have h := sd_flip (sdl_12 hfs k) hw
  rw [sdl_s] at h
  unfold og
  by_cases e : sdl fs k = wn
  · rw [if_pos e, if_neg (fun q => h.mp q e), if_pos rfl]
  · rw [if_neg e, if_pos (h.mpr e), if_neg (show ¬ (1 : Int32) = 0 by decide)]
/-- the numbers that tell a win of the side -/
def ZW (fs wn : Int32) (P D Z : Nat → Nat) : Prop := (wn = fs ∧ Z = P) ∨ (wn = 3 - fs ∧ Z = D)
theorem cap_0 {x : Nat} (h : cap x = 0) : x = 0 := by
  unfold cap at h
  by_cases e : x < 1000000000
  · rw [if_pos e] at h; exact h
  · rw [if_neg e] at h; omega
theorem own_min {nc i : Nat} {fs wn : Int32} {A C K P D Z b : Nat → Nat} {l : List Nat} (hfs : fs = 1 ∨ fs = 2) (hz : ZW fs wn P D Z) (hn : TN nc A C K P D b (fun _ => False)) (hi : i < nc) (hp : PT A l i) (hk : 0 < K i) (h0 : Z i = 0) (ho : sdl fs l.length = wn) : Z (amn Z (C i) (K i)) = 0 := by
  obtain ⟨s1, s2⟩ := (hn l i hi hp (fun q => q)).2 hk
  rcases hz with ⟨e, rfl⟩ | ⟨e, rfl⟩
  · rw [← (s1 ((sdl_fs hfs _).mp (ho.trans e))).1]; exact h0
  · have : ¬ l.length % 2 = 0 := fun q => by
      have := (sdl_fs hfs _).mpr q
      rw [this, e] at ho
      rcases hfs with rfl | rfl
      · exact absurd ho (by decide)
      · exact absurd ho (by decide)
    rw [← (s2 this).1]; exact h0
theorem all_zero {nc i : Nat} {fs wn : Int32} {A C K P D Z b : Nat → Nat} {l : List Nat} (hfs : fs = 1 ∨ fs = 2) (hz : ZW fs wn P D Z) (hn : TN nc A C K P D b (fun _ => False)) (hi : i < nc) (hp : PT A l i) (hk : 0 < K i) (h0 : Z i = 0) (ho : ¬ sdl fs l.length = wn) : ∀ j, C i ≤ j → j < C i + K i → Z j = 0 := by
  obtain ⟨s1, s2⟩ := (hn l i hi hp (fun q => q)).2 hk
  have key : sm Z (C i) (K i) = 0 := by
    rcases hz with ⟨e, rfl⟩ | ⟨e, rfl⟩
    · have : ¬ l.length % 2 = 0 := fun q => ho (((sdl_fs hfs _).mpr q).trans e.symm)
      exact cap_0 ((s2 this).2.symm.trans h0)
    · have : l.length % 2 = 0 := Classical.byContradiction fun q => ho (by
        rw [e]
        unfold sdl
        rw [if_neg q])
      exact cap_0 ((s1 this).2.symm.trans h0)
  intro j j1 j2
  have := sm_ge (X := Z) (c := C i) (K i) (j - C i) (by omega)
  rw [show C i + (j - C i) = j by omega] at this
  omega
theorem end_ok {F N nc i : Nat} {base : Nat → Int32} {fs wn : Int32} {Q A C K P D Z b : Nat → Nat} {cel ah pf df ch mn : Nat → Int32} (hz : ZW fs wn P D Z) (h : TI N nc base fs Q A C K P D b) (hw : RW nc cel ah pf df ch mn Q A C K P D) (hi : i < nc) (h0 : Z i = 0) : pm_X7_isEnd F 8000 pf 8000 df 8000 mn (nI i) = if K i = 0 then some 1 else some 0 := by
  obtain ⟨w1, w2, w3, w4, w5, w6⟩ := hw i hi
  have h8 := h.1
  have bb := z_in (show i < 8000 by omega) (show 8000 < 2 ^ 31 by omega)
  rw [pm_X7_isEnd, z_cl (show i < 2 ^ 31 by omega), w3, w4, w6]
  simp only [if_neg bb]
  by_cases hk : K i = 0
  · have hv : (P i = 0 ∧ D i = 1000000000) ∨ (P i = 1000000000 ∧ D i = 0) := by
      rcases h.2.2.2.1 i hi hk with q | q | q
      · rcases hz with ⟨-, e⟩ | ⟨-, e⟩
        · rw [e] at h0; omega
        · rw [e] at h0; omega
      · exact Or.inl q
      · exact Or.inr q
    rw [if_pos hk, hk, if_pos nI_0]
    rcases hv with ⟨a, c⟩ | ⟨a, c⟩
    · rw [a, c, if_pos nI_0, if_pos (show nI 1000000000 = (1000000000 : Int32) by decide)]
    · rw [a, c, if_neg (nI_ne0 (by omega) (by omega)), if_pos nI_0, if_pos (show nI 1000000000 = (1000000000 : Int32) by decide)]
      first | rfl | (rw [if_pos nI_0])
  · have hm : ¬ nI (K i) = 0 := nI_ne0 (by omega) (by
      have := h.2.2.1 i hi (by omega)
      omega)
    rw [if_neg hk]
    simp only [if_neg hm]
    repeat' (first | rfl | split)
theorem own_ok {F nc : Nat} {fs : Int32} {Q A C K P D : Nat → Nat} {cel ah pf df ch mn : Nat → Int32} (h8 : nc ≤ 8000) (hA : ∀ i, 0 < i → i < nc → A i < i) (hw : RW nc cel ah pf df ch mn Q A C K P D) : ∀ (l : List Nat) k i j, i < nc → PT A l i → l.length < k → pm_X7_isOwn_L7 F 8000 ah k (sdl fs j) (nI i) = some (sdl fs (j + l.length)) := by
  intro l
  induction l with
  | nil =>
    intro k i j hi hp hk
    have e : i = 0 := hp
    subst e
    have hk' : 0 < k := hk
    obtain ⟨k', rfl⟩ : ∃ k', k = k' + 1 := ⟨k - 1, by omega⟩
    rw [pm_X7_isOwn_L7, if_pos (show nI 0 ≤ 0 by rw [nI_0]; decide)]
    rfl
  | cons q l ih =>
    intro k i j hi hp hk
    obtain ⟨e, p1, p2⟩ := hp
    subst e
    have hk' : l.length + 1 < k := hk
    obtain ⟨k', rfl⟩ : ∃ k', k = k' + 1 := ⟨k - 1, by omega⟩
    obtain ⟨w1, w2, -⟩ := hw i hi
    rw [if_neg (by omega)] at w2
    rw [pm_X7_isOwn_L7, if_neg (nI_nle p1 (by omega)), z_bd (show i < 8000 by omega) (by omega), z_cl (show i < 2 ^ 31 by omega), w2, sdl_s, ih k' (A i) (j + 1) (by have := hA i p1 hi; omega) p2 (by omega)]
    congr 2
    show j + 1 + l.length = j + (l.length + 1)
    omega
theorem isOwn_ok {F nc i : Nat} {fs wn : Int32} {Q A C K P D : Nat → Nat} {cel ah pf df ch mn : Nat → Int32} {l : List Nat} (h8 : nc ≤ 8000) (hA : ∀ i, 0 < i → i < nc → A i < i) (hw : RW nc cel ah pf df ch mn Q A C K P D) (hi : i < nc) (hp : PT A l i) (hF : l.length < F) : pm_X7_isOwn F wn fs 8000 ah (nI i) = some (og fs wn l.length) := by
  have q := own_ok (F := F) (fs := fs) h8 hA hw l F i 0 hi hp hF
  rw [sdl_0, Nat.zero_add] at q
  rw [pm_X7_isOwn, q, bd1_e]
  unfold og
  split <;> rfl
theorem amn_fst {X : Nat → Nat} {c : Nat} : ∀ k j, c + j < amn X c k → X (amn X c k) < X (c + j) := by
  intro k
  induction k with
  | zero => intro j h; have : c + j < c := h; omega
  | succ k ih =>
    intro j h
    rw [amn] at h ⊢
    by_cases e : X (amn X c k) ≤ X (c + k)
    · rw [if_pos e] at h ⊢
      exact ih j h
    · rw [if_neg e] at h ⊢
      have := amn_le (X := X) (c := c) k j (by omega)
      omega
theorem sure_ok {F i : Nat} {fs wn : Int32} {pf df : Nat → Int32} {P D Z : Nat → Nat} (hfs : fs = 1 ∨ fs = 2) (hz : ZW fs wn P D Z) (hi : i < 8000) (hp : pf i = nI (P i)) (hd : df i = nI (D i)) (hP : P i ≤ 1000000000) (hD : D i ≤ 1000000000) : pm_X7_isSure F wn fs 8000 pf 8000 df (nI i) = if Z i = 0 then some 1 else some 0 := by
  have zz : ∀ x : Nat, x ≤ 1000000000 → (nI x = 0 ↔ x = 0) := fun x hx => by
    rw [show (0 : Int32) = nI 0 from nI_0.symm]
    exact nI_eq (by omega) (by omega)
  rw [pm_X7_isSure, z_bd hi (by omega), z_bd hi (by omega), z_cl (show i < 2 ^ 31 by omega), hp, hd]
  rcases hz with ⟨e, rfl⟩ | ⟨e, rfl⟩
  · rw [if_pos e]
    by_cases h : Z i = 0
    · rw [if_pos ((zz _ hP).mpr h), if_pos h]
    · rw [if_neg (fun q => h ((zz _ hP).mp q)), if_neg h]
  · have hne : ¬ wn = fs := by
      rw [e]
      rcases hfs with rfl | rfl <;> decide
    rw [if_neg hne]
    by_cases h : Z i = 0
    · rw [if_pos ((zz _ hD).mpr h), if_pos h]
    · rw [if_neg (fun q => h ((zz _ hD).mp q)), if_neg h]
theorem sure_L {F c m y : Nat} {fs wn : Int32} {pf df : Nat → Int32} {P D Z : Nat → Nat} (hfs : fs = 1 ∨ fs = 2) (hz : ZW fs wn P D Z) (hcm : c + m ≤ 8000) (hP : RV c m pf P) (hD : RV c m df D) (hy : y < c + m) (hy0 : Z y = 0) (hyf : ∀ t, c ≤ t → t < y → ¬ Z t = 0) : ∀ k j, c ≤ j → j ≤ y → y < j + k → pm_X7_gather_L108_2 F wn fs 8000 pf 8000 df k (nI j) = some (nI y) := by
  intro k
  induction k with
  | zero => intro j h1 h2 h3; omega
  | succ k ih =>
    intro j h1 h2 h3
    obtain ⟨a1, a2⟩ := hP j h1 (by omega)
    obtain ⟨b1, b2⟩ := hD j h1 (by omega)
    rw [pm_X7_gather_L108_2, sure_ok hfs hz (by omega) a1 b1 a2 b2]
    by_cases e : j = y
    · subst e
      rw [if_pos hy0, bd1_e, if_neg (show ¬ (1 : Int32) = 0 by decide)]
    · rw [if_neg (hyf j h1 (by omega)), bd1_e, if_pos rfl, z_1]
      exact ih (j + 1) (by omega) (by omega) (by omega)
theorem push_L {F c m w : Nat} {ch v : Nat → Int32} {b : Int32} {x1 : Int32} (hc : 1 ≤ c) (hcm : c + m ≤ 8000) (hwm : w + m ≤ 8200) (hch : ch (v (x1 + (-1 : Int32)).toNatClampNeg).toNatClampNeg = nI c) :
    ∀ k t (op be : Nat → Int32), t ≤ m → m < t + k → (∀ j, j < t → op (w + j) = nI (c + m - 1 - j) ∧ be (w + j) = b) → ∃ op' be', pm_X7_gather_L157_2 F ch 8200 8200 x1 v b k (nI (w + t)) (nI (c + m - 1 - t)) op be = some (nI (w + m), op', be') ∧ (∀ j, j < m → op' (w + j) = nI (c + m - 1 - j) ∧ be' (w + j) = b) ∧ ∀ p, p < w → op' p = op p ∧ be' p = be p := by
  intro k
  induction k with
  | zero => intro t op be h1 h2; omega
  | succ k ih =>
    intro t op be h1 h2 hop
    rw [pm_X7_gather_L157_2, hch]
    by_cases h : t < m
    · have e1 : nI (c + m - 1 - t) + (-1 : Int32) = nI (c + m - 1 - (t + 1)) := by
        rw [show c + m - 1 - t = (c + m - 1 - (t + 1)) + 1 by omega, pk_m1]
      rw [if_neg (nI_nlt (show c ≤ c + m - 1 - t by omega) (by omega)), z_bd (show w + t < 8200 by omega) (by omega), z_bd (show w + t < 8200 by omega) (by omega), z_cl (show w + t < 2 ^ 31 by omega), z_1, e1]
      obtain ⟨op', be', q1, q2, q3⟩ := ih (t + 1) (upd op (w + t) (nI (c + m - 1 - t))) (upd be (w + t) b) h (by omega) (fun j hj => by
        by_cases e : j = t
        · subst e; exact ⟨u_s, u_s⟩
        · rw [u_n (by omega), u_n (by omega)]; exact hop j (by omega))
      refine ⟨op', be', q1, q2, fun p hp => ?_⟩
      obtain ⟨r1, r2⟩ := q3 p hp
      exact ⟨r1.trans (u_n (by omega)), r2.trans (u_n (by omega))⟩
    · have : t = m := by omega
      subst this
      rw [if_pos (nI_lt (show c + t - 1 - t < c by omega) (by omega))]
      exact ⟨op, be, rfl, hop, fun p hp => ⟨rfl, rfl⟩⟩
