/-! PURE: the tree with a leaf's children -/
theorem PT_congr {A A' : Nat → Nat} {nc : Nat} (hA : ∀ i, 0 < i → i < nc → A i < i) (he : ∀ i, i < nc → A' i = A i) : ∀ {l : List Nat} {i : Nat}, i < nc → (PT A' l i ↔ PT A l i) := by
  intro l
  induction l with
  | nil => intro i _; exact Iff.rfl
  | cons q l ih =>
    intro i hi
    constructor
    · rintro ⟨e, h1, h2⟩
      subst e
      rw [he i hi] at h2
      exact ⟨rfl, h1, (ih (by have := hA i h1 hi; omega)).mp h2⟩
    · rintro ⟨e, h1, h2⟩
      subst e
      refine ⟨rfl, h1, ?_⟩
      rw [he i hi]
      exact (ih (by have := hA i h1 hi; omega)).mpr h2
theorem sS_congr {base : Nat → Int32} {fs : Int32} {Q Q' A : Nat → Nat} {nc : Nat} (hA : ∀ i, 0 < i → i < nc → A i < i) (he : ∀ i, i < nc → Q' i = Q i) : ∀ {l : List Nat} {i : Nat}, i < nc → PT A l i → sS base fs Q' l = sS base fs Q l := by
  intro l
  induction l with
  | nil => intro i _ _; rfl
  | cons q l ih =>
    rintro i hi ⟨e, h1, h2⟩
    subst e
    show upd (sS base fs Q' l) (Q' i) _ = upd (sS base fs Q l) (Q i) _
    rw [he i hi, ih (by have := hA i h1 hi; omega) h2]
theorem amn_congr {X Y : Nat → Nat} {c : Nat} : ∀ k, (∀ j, j < k → X (c + j) = Y (c + j)) → amn X c k = amn Y c k := by
  intro k
  induction k with
  | zero => intro _; rfl
  | succ k ih =>
    intro h
    have e := ih (fun j hj => h j (by omega))
    have ea : X (amn Y c k) = Y (amn Y c k) := by
      cases k with
      | zero => exact h 0 (by omega)
      | succ k =>
        obtain ⟨a1, a2⟩ := amn_in (X := Y) (c := c) (k + 1) (by omega)
        have := h (amn Y c (k + 1) - c) (by omega)
        rw [show c + (amn Y c (k + 1) - c) = amn Y c (k + 1) by omega] at this
        exact this
    rw [amn, amn, e, ea, h k (by omega)]
theorem sm_congr {X Y : Nat → Nat} {c : Nat} : ∀ k, (∀ j, j < k → X (c + j) = Y (c + j)) → sm X c k = sm Y c k := by
  intro k
  induction k with
  | zero => intro _; rfl
  | succ k ih => intro h; rw [sm, sm, ih (fun j hj => h j (by omega)), h k (by omega)]
theorem sm_one {b b' : Nat → Nat} {c x E : Nat} : ∀ m, (∀ j, j < m → b' (c + j) ≤ b (c + j) + (if c + j = x then E else 0)) → sm b' c m ≤ sm b c m + (if x < c + m then E else 0) := by
  intro m
  induction m with
  | zero => intro _; exact Nat.zero_le _
  | succ m ih =>
    intro h
    have h1 := ih (fun j hj => h j (by omega))
    have h2 := h m (by omega)
    rw [sm, sm]
    by_cases e : c + m = x
    · rw [if_pos e] at h2
      rw [if_neg (by omega)] at h1
      rw [if_pos (by omega)]
      omega
    · rw [if_neg e] at h2
      by_cases e2 : x < c + m
      · rw [if_pos e2] at h1
        rw [if_pos (by omega)]
        omega
      · rw [if_neg e2] at h1
        rw [if_neg (by omega)]
        omega
theorem PT_sib {A : Nat → Nat} {nc : Nat} (hA : ∀ i, 0 < i → i < nc → A i < i) : ∀ {l : List Nat} {i : Nat}, i < nc → PT A l i → ∀ j j', j ∈ l → j' ∈ l → A j = A j' → j = j' := by
  intro l
  induction l with
  | nil => intro i _ _ j j' hj; cases hj
  | cons q l ih =>
    rintro i hi ⟨e, h1, h2⟩ j j' hj hj' ea
    subst e
    have hAi := hA i h1 hi
    have hle := PT_le hA (show A i < nc by omega) h2
    cases hj with
    | head =>
      cases hj' with
      | head => rfl
      | tail _ hj' =>
        have := hle j' hj'
        have := hA j' (by omega) (by omega)
        omega
    | tail _ hj =>
      cases hj' with
      | head =>
        have := hle j hj
        have := hA j (by omega) (by omega)
        omega
      | tail _ hj' => exact ih (by omega) h2 j j' hj hj' ea
theorem PT_up {A : Nat → Nat} : ∀ {l : List Nat} {i : Nat}, PT A l i → ∀ j, j ∈ l → A j = 0 ∨ A j ∈ l := by
  intro l
  induction l with
  | nil => intro i _ j hj; cases hj
  | cons q l ih =>
    rintro i ⟨e, h1, h2⟩ j hj
    cases hj with
    | head =>
      cases l with
      | nil => exact Or.inl h2
      | cons q2 l =>
        right
        rw [h2.1]
        exact List.mem_cons_of_mem _ (List.mem_cons_self ..)
    | tail _ hj =>
      rcases ih h2 j hj with q | q
      · exact Or.inl q
      · exact Or.inr (List.mem_cons_of_mem _ q)
theorem PT_top {A : Nat → Nat} {l : List Nat} {i : Nat} (h : PT A l i) : i = 0 ∨ i ∈ l := by
  cases l with
  | nil => exact Or.inl h
  | cons q l => right; rw [h.1]; exact List.mem_cons_self ..
def bN (nc E : Nat) (l : List Nat) (b : Nat → Nat) : Nat → Nat := fun i => if nc ≤ i then 1 else if i = 0 ∨ i ∈ l then b i + E else b i
theorem grown {N nc n E : Nat} {base xs : Nat → Int32} {fs mv : Int32} {Q A C K P D b Q' A' C' K' P' D' : Nat → Nat} {l : List Nat} (hN : N < 12) (hfs : fs = 1 ∨ fs = 2) (hmv : mv = sdl fs l.length) (h : TI N nc base fs Q A C K P D b) (hn : TN nc A C K P D b (fun _ => False)) (hi : n < nc) (hp : PT A l n) (hKn : K n = 0) (hPn : P n = 1) (hE : 0 < E) (h8 : nc + E ≤ 8000) (hB : BR N xs (sS base fs Q l)) (hO : OL nc Q A C K P D Q' A' C' K' P' D') (hK : NK N nc (nc + E) n xs mv fs Q' A' K' P' D') :
    TI N (nc + E) base fs Q' A' (un C' n nc) (un K' n E) P' D' (bN nc E l b) ∧ TN (nc + E) A' (un C' n nc) (un K' n E) P' D' (bN nc E l b) (fun j => j = 0 ∨ j ∈ l) ∧ PT A' l n ∧ sS base fs Q' l = sS base fs Q l := by
  have h' := h
  obtain ⟨h0, h1, h2, h3, h4, h5, h6, h7⟩ := h
  have hA : ∀ i, 0 < i → i < nc → A i < i := fun i a b => (h1 i a b).1
  have eA : ∀ i, i < nc → A' i = A i := fun i q => (hO i q).2.1
  have eQ : ∀ i, i < nc → Q' i = Q i := fun i q => (hO i q).1
  have pt : ∀ {l : List Nat} {i : Nat}, i < nc → (PT A' l i ↔ PT A l i) := fun q => PT_congr hA eA q
  have hle := PT_le hA hi hp
  have hsS := sS_congr (base := base) (fs := fs) hA eQ hi hp
  have hNn : NW N (sS base fs Q l) := h6 l n hi hp (fun _ => hPn)
  have hmv2 : mv = 1 ∨ mv = 2 := by rw [hmv]; exact sdl_12 hfs _
  have ne : ∀ i, i < nc → 0 < K i → i ≠ n := fun i _ q e => by subst e; omega
  have bo : ∀ i, i < nc → bN nc E l b i = if i = 0 ∨ i ∈ l then b i + E else b i := fun i q => if_neg (by omega)
  have bn : ∀ i, nc ≤ i → bN nc E l b i = 1 := fun i q => if_pos q
  refine ⟨⟨by omega, ?_, ?_, ?_, ?_, ?_, ?_, ?_⟩, ?_, (pt hi).mpr hp, hsS⟩
  · intro i i0 i1
    by_cases e : i < nc
    · obtain ⟨a1, a2, a3⟩ := h1 i i0 e
      have hne := ne (A i) (by omega) (by omega)
      rw [eA i e, un_n hne, un_n hne, (hO (A i) (by omega)).2.2.1, (hO (A i) (by omega)).2.2.2.1]
      exact ⟨a1, a2, a3⟩
    · obtain ⟨k1, -⟩ := hK i (by omega) i1
      rw [k1, un_s, un_s]
      omega
  · intro i i1 i2
    by_cases e : i = n
    · subst e
      rw [un_s, un_s]
      refine ⟨hi, by omega, fun j j1 j2 => (hK j j1 j2).1⟩
    · rw [un_n e] at i2
      rw [un_n e, un_n e]
      by_cases e2 : i < nc
      · rw [(hO i e2).2.2.2.1] at i2
        rw [(hO i e2).2.2.2.1, (hO i e2).2.2.1]
        obtain ⟨a1, a2, a3⟩ := h2 i e2 i2
        exact ⟨a1, by omega, fun j j1 j2 => by rw [eA j (by omega)]; exact a3 j j1 j2⟩
      · have := (hK i (by omega) i1).2.1
        omega
  · intro i i1 i2
    by_cases e : i = n
    · subst e
      rw [un_s] at i2
      omega
    · rw [un_n e] at i2
      by_cases e2 : i < nc
      · rw [(hO i e2).2.2.2.1] at i2
        rw [(hO i e2).2.2.2.2.1, (hO i e2).2.2.2.2.2]
        exact h3 i e2 i2
      · have := (hK i (by omega) i1).2.2.2.2
        unfold nv at this
        rcases this with ⟨-, a, b⟩ | ⟨-, -, a, b⟩ | ⟨-, -, a, b⟩
        · exact Or.inl ⟨a, b⟩
        · exact Or.inr (Or.inl ⟨a, b⟩)
        · exact Or.inr (Or.inr ⟨a, b⟩)
  · intro i i1
    by_cases e2 : i < nc
    · obtain ⟨b1, b2⟩ := h4 i e2
      rw [bo i e2]
      refine ⟨by split <;> omega, ?_⟩
      by_cases e : i = n
      · subst e
        intro _
        rw [un_s, un_s, if_pos (PT_top hp)]
        have : sm (bN nc E l b) nc E ≤ E := by
          have key : ∀ m, sm (bN nc E l b) nc m = m := by
            intro m
            induction m with
            | zero => rfl
            | succ m ih => rw [sm, ih, bn (nc + m) (by omega)]
          rw [key E]
          exact Nat.le_refl _
        omega
      · rw [un_n e, un_n e, (hO i e2).2.2.2.1, (hO i e2).2.2.1]
        intro i2
        obtain ⟨a1, a2, a3⟩ := h2 i e2 i2
        have hb := b2 i2
        by_cases hon : i = 0 ∨ i ∈ l
        · rw [if_pos hon]
          by_cases hex : ∃ x, C i ≤ x ∧ x < C i + K i ∧ x ∈ l
          · obtain ⟨x, x1, x2, x3⟩ := hex
            have := sm_one (b := b) (b' := bN nc E l b) (c := C i) (x := x) (E := E) (K i) (fun j hj => by
              rw [bo (C i + j) (by omega)]
              by_cases ej : C i + j = 0 ∨ C i + j ∈ l
              · have : C i + j = x := by
                  rcases ej with ej | ej
                  · omega
                  · exact PT_sib hA hi hp _ _ ej x3 (by rw [a3 (C i + j) (by omega) (by omega), a3 x x1 x2])
                rw [if_pos ej, if_pos this]
                exact Nat.le_refl _
              · rw [if_neg ej]
                exact Nat.le_add_right _ _)
            rw [if_pos (by omega)] at this
            omega
          · have : sm (bN nc E l b) (C i) (K i) ≤ sm b (C i) (K i) := sm_mono _ (fun j hj => by
              rw [bo (C i + j) (by omega), if_neg (by
                rintro (q | q)
                · omega
                · exact hex ⟨C i + j, by omega, by omega, q⟩)]
              exact Nat.le_refl _)
            omega
        · rw [if_neg hon]
          have : sm (bN nc E l b) (C i) (K i) ≤ sm b (C i) (K i) := sm_mono _ (fun j hj => by
            rw [bo (C i + j) (by omega), if_neg (by
              rintro (q | q)
              · omega
              · have := PT_up hp _ q
                rw [a3 (C i + j) (by omega) (by omega)] at this
                exact hon this)]
            exact Nat.le_refl _)
          omega
    · rw [bn i (by omega)]
      refine ⟨Nat.le_refl _, fun i2 => ?_⟩
      rw [un_n (by omega), (hK i (by omega) i1).2.1] at i2
      omega
  · rw [bo 0 (by omega), if_pos (Or.inl rfl)]
    omega
  · intro l' i i1 i2 i3
    by_cases e2 : i < nc
    · have i2' := (pt e2).mp i2
      rw [sS_congr (base := base) (fs := fs) hA eQ e2 i2']
      by_cases e : i = n
      · subst e
        exact h6 l' i e2 i2' (fun _ => hPn)
      · rw [un_n e, (hO i e2).2.2.2.1, (hO i e2).2.2.2.2.1] at i3
        exact h6 l' i e2 i2' i3
    · obtain ⟨k1, k2, k3, k4, k5⟩ := hK i (by omega) i1
      cases l' with
      | nil => have : i = 0 := i2
               omega
      | cons q l2 =>
        obtain ⟨e, q1, q2⟩ := i2
        subst e
        rw [k1] at q2
        have el : l2 = l := PT_uniq ((pt hi).mp q2) hp
        subst el
        rw [un_n (show i ≠ n by omega)] at i3
        have hP1 := i3 k2
        have hnw : ¬ Won N (upd xs (Q' i) mv) mv := by
          unfold nv at k5
          rcases k5 with ⟨a, -⟩ | ⟨-, -, a, -⟩ | ⟨-, -, a, -⟩
          · exact a
          · omega
          · omega
        have hB' : BR N (upd xs (Q' i) mv) (upd (sS base fs Q l2) (Q' i) mv) := hB.put (side_s3 hmv2)
        show NW N (upd (sS base fs Q' l2) (Q' i) (sdl fs l2.length))
        rw [hsS, ← hmv]
        have key : ∀ s, (s = 1 ∨ s = 2) → ¬ Won N (upd (sS base fs Q l2) (Q' i) mv) s := by
          intro s hs hw
          by_cases es : s = mv
          · rw [es] at hw
            exact hnw ((won_iff hN (fun j hj => (hB' j hj).2)).mp hw)
          · have := won_off es hw
            rcases hs with rfl | rfl
            · exact hNn.1 this
            · exact hNn.2 this
        exact ⟨key 1 (Or.inl rfl), key 2 (Or.inr rfl)⟩
  · intro l' q q1 q2 q3
    by_cases e2 : q < nc
    · have hAq := hA q q1 e2
      rw [eA q e2] at q3
      have q3' := (pt (show A q < nc by omega)).mp q3
      rw [sS_congr (base := base) (fs := fs) hA eQ (show A q < nc by omega) q3', eQ q e2]
      exact h7 l' q q1 e2 q3'
    · obtain ⟨k1, k2, k3, k4, k5⟩ := hK q (by omega) q2
      rw [k1] at q3
      have el : l' = l := PT_uniq ((pt hi).mp q3) hp
      subst el
      rw [hsS]
      exact ⟨k3, by rw [(hB _ k3).2]; exact k4⟩
  · intro l' i i1 i2 i3
    by_cases e2 : i < nc
    · have i2' := (pt e2).mp i2
      have e : i ≠ n := fun e => i3 (by rw [e]; exact PT_top hp)
      obtain ⟨r1, r2⟩ := hn l' i e2 i2' (fun q => q)
      unfold RKd
      rw [bo i e2, if_neg i3, un_n e, un_n e, (hO i e2).2.2.2.1, (hO i e2).2.2.1, (hO i e2).2.2.2.2.1, (hO i e2).2.2.2.2.2]
      refine ⟨r1, fun i4 => ?_⟩
      obtain ⟨a1, a2, a3⟩ := h2 i e2 i4
      have eP : ∀ j, j < K i → P' (C i + j) = P (C i + j) := fun j hj => (hO (C i + j) (by omega)).2.2.2.2.1
      have eD : ∀ j, j < K i → D' (C i + j) = D (C i + j) := fun j hj => (hO (C i + j) (by omega)).2.2.2.2.2
      obtain ⟨p1, p2⟩ := amn_in (X := P) (c := C i) (K i) i4
      obtain ⟨d1, d2⟩ := amn_in (X := D) (c := C i) (K i) i4
      rw [amn_congr (K i) eP, amn_congr (K i) eD, sm_congr (K i) eP, sm_congr (K i) eD, (hO (amn P (C i) (K i)) (by omega)).2.2.2.2.1, (hO (amn D (C i) (K i)) (by omega)).2.2.2.2.2]
      exact r2 i4
    · obtain ⟨k1, k2, k3, k4, k5⟩ := hK i (by omega) i1
      unfold RKd
      rw [bn i (by omega), un_n (show i ≠ n by omega), k2]
      refine ⟨?_, fun q => by omega⟩
      unfold nv at k5
      unfold tri
      rcases k5 with ⟨-, a, b⟩ | ⟨-, -, a, b⟩ | ⟨-, -, a, b⟩
      · exact Or.inr (Or.inr ⟨by omega, by omega, by omega, by omega⟩)
      · exact Or.inl ⟨a, b⟩
      · exact Or.inr (Or.inl ⟨a, b⟩)
