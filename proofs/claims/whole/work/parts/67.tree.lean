/-! PURE: the tree of the search -/
def sdl (fs : Int32) (k : Nat) : Int32 := if k % 2 = 0 then fs else 3 - fs
theorem sdl_0 {fs : Int32} : sdl fs 0 = fs := rfl
theorem sdl_12 {fs : Int32} (h : fs = 1 ∨ fs = 2) (k : Nat) : sdl fs k = 1 ∨ sdl fs k = 2 := by
  unfold sdl
  by_cases e : k % 2 = 0
  · rw [if_pos e]; exact h
  · rw [if_neg e]; exact other_ok h
theorem sdl_s {fs : Int32} (k : Nat) : 3 - sdl fs k = sdl fs (k + 1) := by
  unfold sdl
  by_cases e : k % 2 = 0
  · rw [if_pos e, if_neg (by omega)]
  · rw [if_neg e, if_pos (by omega)]
    grind
theorem sdl_fs {fs : Int32} (h : fs = 1 ∨ fs = 2) (k : Nat) : sdl fs k = fs ↔ k % 2 = 0 := by
  unfold sdl
  by_cases e : k % 2 = 0
  · rw [if_pos e]; exact ⟨fun _ => e, fun _ => rfl⟩
  · rw [if_neg e]
    refine ⟨fun q => ?_, fun q => absurd q e⟩
    rcases h with rfl | rfl
    · exact absurd q (by decide)
    · exact absurd q (by decide)
def PT (A : Nat → Nat) : List Nat → Nat → Prop
  | [], i => i = 0
  | q :: l, i => i = q ∧ 0 < q ∧ PT A l (A q)
def sS (base : Nat → Int32) (fs : Int32) (Q : Nat → Nat) : List Nat → Nat → Int32
  | [] => base
  | q :: l => upd (sS base fs Q l) (Q q) (sdl fs l.length)
theorem PT_uniq {A : Nat → Nat} : ∀ {l l' : List Nat} {i : Nat}, PT A l i → PT A l' i → l = l' := by
  intro l
  induction l with
  | nil =>
    intro l' i h h'
    cases l' with
    | nil => rfl
    | cons q l' =>
      have e1 : i = 0 := h
      have e2 := h'.1
      have e3 := h'.2.1
      omega
  | cons q l ih =>
    intro l' i h h'
    cases l' with
    | nil =>
      have e1 : i = 0 := h'
      have e2 := h.1
      have e3 := h.2.1
      omega
    | cons q' l' =>
      have e : q = q' := h.1.symm.trans h'.1
      subst e
      rw [ih h.2.2 h'.2.2]
theorem PT_le {A : Nat → Nat} {nc : Nat} (hA : ∀ i, 0 < i → i < nc → A i < i) : ∀ {l : List Nat} {i : Nat}, i < nc → PT A l i → ∀ q, q ∈ l → 0 < q ∧ q ≤ i := by
  intro l
  induction l with
  | nil => intro i _ _ q hq; cases hq
  | cons x l ih =>
    intro i hi h q hq
    obtain ⟨e, h1, h2⟩ := h
    subst e
    cases hq with
    | head => exact ⟨h1, Nat.le_refl _⟩
    | tail _ hq =>
      have := hA i h1 hi
      have := ih (by omega) h2 q hq
      omega
def tri (X Y b : Nat) : Prop := (X = 0 ∧ Y = 1000000000) ∨ (X = 1000000000 ∧ Y = 0) ∨ (1 ≤ X ∧ X ≤ b ∧ 1 ≤ Y ∧ Y ≤ b)
theorem tri_sw {X Y b : Nat} (h : tri X Y b) : tri Y X b := by
  unfold tri at *
  omega
theorem sm_ge {X : Nat → Nat} {c : Nat} : ∀ m j, j < m → X (c + j) ≤ sm X c m := by
  intro m
  induction m with
  | zero => intro j h; omega
  | succ m ih =>
    intro j h
    rw [sm]
    by_cases e : j = m
    · subst e; omega
    · have := ih j (by omega); omega
theorem sm_mono {X Y : Nat → Nat} {c : Nat} : ∀ m, (∀ j, j < m → X (c + j) ≤ Y (c + j)) → sm X c m ≤ sm Y c m := by
  intro m
  induction m with
  | zero => intro _; exact Nat.le_refl _
  | succ m ih =>
    intro h
    have := ih (fun j hj => h j (by omega))
    have := h m (by omega)
    rw [sm, sm]
    omega
theorem sm_zero {X : Nat → Nat} {c : Nat} : ∀ m, (∀ j, j < m → X (c + j) = 0) → sm X c m = 0 := by
  intro m
  induction m with
  | zero => intro _; rfl
  | succ m ih =>
    intro h
    rw [sm, ih (fun j hj => h j (by omega)), h m (by omega)]
theorem reck_tri {X Y b : Nat → Nat} {c m B : Nat} (h0 : 0 < m) (h : ∀ j, j < m → tri (X (c + j)) (Y (c + j)) (b (c + j))) (hb : sm b c m ≤ B) (hB : B < 1000000000) : tri (X (amn X c m)) (cap (sm Y c m)) B := by
  obtain ⟨a1, a2⟩ := amn_in (X := X) (c := c) m h0
  have hin := h (amn X c m - c) (by omega)
  rw [show c + (amn X c m - c) = amn X c m by omega] at hin
  by_cases e0 : ∃ j, j < m ∧ X (c + j) = 0
  · obtain ⟨j, j1, j2⟩ := e0
    have hle := amn_le (X := X) (c := c) m j j1
    have ht := h j j1
    have hY : Y (c + j) = 1000000000 := by unfold tri at ht; omega
    have hs := sm_ge (X := Y) (c := c) m j j1
    left
    refine ⟨by omega, ?_⟩
    unfold cap
    rw [if_neg (by omega)]
  · by_cases eu : ∃ j, j < m ∧ ¬ X (c + j) = 1000000000
    · obtain ⟨j, j1, j2⟩ := eu
      have hj0 : ¬ X (c + j) = 0 := fun q => e0 ⟨j, j1, q⟩
      have ht := h j j1
      have hle := amn_le (X := X) (c := c) m j j1
      have hbj := sm_ge (X := b) (c := c) m j j1
      have hyj := sm_ge (X := Y) (c := c) m j j1
      have ham : ¬ X (amn X c m) = 0 := fun q => e0 ⟨amn X c m - c, by omega, by rw [show c + (amn X c m - c) = amn X c m by omega]; exact q⟩
      have hYb : sm Y c m ≤ sm b c m := sm_mono m (fun k hk => by
        have hk0 : ¬ X (c + k) = 0 := fun q => e0 ⟨k, hk, q⟩
        have := h k hk
        unfold tri at this
        omega)
      right; right
      unfold tri at ht
      have ec : cap (sm Y c m) = sm Y c m := by unfold cap; rw [if_pos (by omega)]
      rw [ec]
      omega
    · have hall : ∀ k, k < m → X (c + k) = 1000000000 := fun k hk => Classical.byContradiction fun q => eu ⟨k, hk, q⟩
      right; left
      have ex := hall (amn X c m - c) (by omega)
      rw [show c + (amn X c m - c) = amn X c m by omega] at ex
      refine ⟨ex, ?_⟩
      rw [sm_zero m (fun k hk => by
        have := h k hk
        have := hall k hk
        have := sm_ge (X := b) (c := c) m k hk
        unfold tri at *
        omega)]
      rfl
def RW (nc : Nat) (cel ah pf df ch mn : Nat → Int32) (Q A C K P D : Nat → Nat) : Prop := ∀ i, i < nc → cel i = (if i = 0 then -1 else nI (Q i)) ∧ ah i = (if i = 0 then -1 else nI (A i)) ∧ pf i = nI (P i) ∧ df i = nI (D i) ∧ ch i = (if K i = 0 then -1 else nI (C i)) ∧ mn i = nI (K i)
def TI (N nc : Nat) (base : Nat → Int32) (fs : Int32) (Q A C K P D b : Nat → Nat) : Prop :=
  (0 < nc ∧ nc ≤ 8000) ∧
  (∀ i, 0 < i → i < nc → A i < i ∧ C (A i) ≤ i ∧ i < C (A i) + K (A i)) ∧
  (∀ i, i < nc → 0 < K i → i < C i ∧ C i + K i ≤ nc ∧ ∀ j, C i ≤ j → j < C i + K i → A j = i) ∧
  (∀ i, i < nc → K i = 0 → (P i = 1 ∧ D i = 1) ∨ (P i = 0 ∧ D i = 1000000000) ∨ (P i = 1000000000 ∧ D i = 0)) ∧
  (∀ i, i < nc → 1 ≤ b i ∧ (0 < K i → sm b (C i) (K i) ≤ b i)) ∧ b 0 ≤ nc ∧
  (∀ l i, i < nc → PT A l i → (K i = 0 → P i = 1) → NW N (sS base fs Q l)) ∧
  (∀ l q, 0 < q → q < nc → PT A l (A q) → Q q < N * N ∧ sS base fs Q l (Q q) = 0)
def RKd (A C K P D b : Nat → Nat) (l : List Nat) (i : Nat) : Prop := tri (P i) (D i) (b i) ∧ (0 < K i → (l.length % 2 = 0 → P i = P (amn P (C i) (K i)) ∧ D i = cap (sm D (C i) (K i))) ∧ (¬ l.length % 2 = 0 → D i = D (amn D (C i) (K i)) ∧ P i = cap (sm P (C i) (K i))))
def TN (nc : Nat) (A C K P D b : Nat → Nat) (R : Nat → Prop) : Prop := ∀ l i, i < nc → PT A l i → ¬ R i → RKd A C K P D b l i
theorem b_le {N nc : Nat} {base : Nat → Int32} {fs : Int32} {Q A C K P D b : Nat → Nat} (h : TI N nc base fs Q A C K P D b) : ∀ i, i < nc → b i ≤ nc := by
  obtain ⟨h0, h1, h2, h3, h4, h5, h6, h7⟩ := h
  have : ∀ n i, i < n → i < nc → b i ≤ nc := by
    intro n
    induction n with
    | zero => intro i hi; omega
    | succ n ih =>
      intro i hi hnc
      by_cases e : i = 0
      · subst e; exact h5
      · obtain ⟨a1, a2, a3⟩ := h1 i (by omega) hnc
        have := ih (A i) (by omega) (by omega)
        have hb := (h4 (A i) (by omega)).2 (by omega)
        have hs := sm_ge (X := b) (c := C (A i)) (K (A i)) (i - C (A i)) (by omega)
        rw [show C (A i) + (i - C (A i)) = i by omega] at hs
        omega
  exact fun i hi => this (i + 1) i (by omega) hi
theorem len_S {N nc : Nat} {base : Nat → Int32} {fs : Int32} {Q A C K P D b : Nat → Nat} (hfs : fs = 1 ∨ fs = 2) (h : TI N nc base fs Q A C K P D b) : ∀ (l : List Nat) i, i < nc → PT A l i → l.length + cnt (em (sS base fs Q l)) (N * N) ≤ N * N := by
  obtain ⟨h0, h1, h2, h3, h4, h5, h6, h7⟩ := h
  intro l
  induction l with
  | nil => intro i _ _; have := cnt_le (em (sS base fs Q [])) (N * N); show 0 + _ ≤ _; omega
  | cons q l ih =>
    intro i hi hp
    obtain ⟨e, p1, p2⟩ := hp
    subst e
    obtain ⟨a1, a2, a3⟩ := h1 i p1 hi
    have := ih (A i) (by omega) p2
    obtain ⟨c1, c2⟩ := h7 l i p1 hi p2
    have e : cnt (em (sS base fs Q l)) (N * N) = cnt (em (sS base fs Q (i :: l))) (N * N) + 1 := by
      refine cnt_upd c1 ?_ (decide_eq_true c2) (fun d _ hd => ?_)
      · show decide (upd (sS base fs Q l) (Q i) (sdl fs l.length) (Q i) = 0) = false
        rw [u_s]
        rcases sdl_12 hfs l.length with q | q <;> rw [q] <;> decide
      · show decide (sS base fs Q l d = 0) = decide (upd (sS base fs Q l) (Q i) (sdl fs l.length) d = 0)
        rw [u_n hd]
    show l.length + 1 + _ ≤ _
    omega
theorem tri_le {X Y b : Nat} (h : tri X Y b) (hb : b ≤ 8000) : X ≤ 1000000000 ∧ Y ≤ 1000000000 := by
  unfold tri at h
  omega
/-- what the children of a node on a path say -/
theorem kids {N nc : Nat} {base : Nat → Int32} {fs : Int32} {Q A C K P D b : Nat → Nat} {R : Nat → Prop} {cel ah pf df ch mn : Nat → Int32} {l : List Nat} {i : Nat} (h : TI N nc base fs Q A C K P D b) (hN : TN nc A C K P D b R) (hw : RW nc cel ah pf df ch mn Q A C K P D) (hi : i < nc) (hp : PT A l i) (hk : 0 < K i) (hR : ∀ j, C i ≤ j → j < C i + K i → ¬ R j) :
    RV (C i) (K i) pf P ∧ RV (C i) (K i) df D ∧ ∀ j, j < K i → tri (P (C i + j)) (D (C i + j)) (b (C i + j)) := by
  have hb := b_le h
  obtain ⟨h0, h1, h2, h3, h4, h5, h6, h7⟩ := h
  obtain ⟨c1, c2, c3⟩ := h2 i hi hk
  have ht : ∀ j, C i ≤ j → j < C i + K i → tri (P j) (D j) (b j) := fun j j1 j2 => (hN (j :: l) j (by omega) ⟨rfl, by omega, by rw [c3 j j1 j2]; exact hp⟩ (hR j j1 j2)).1
  refine ⟨fun j j1 j2 => ⟨(hw j (by omega)).2.2.1, (tri_le (ht j j1 j2) (by have := hb j (by omega); omega)).1⟩, fun j j1 j2 => ⟨(hw j (by omega)).2.2.2.1, (tri_le (ht j j1 j2) (by have := hb j (by omega); omega)).2⟩, fun j hj => ht (C i + j) (by omega) (by omega)⟩
theorem descend_both {F N nc nn : Nat} {base : Nat → Int32} {fs : Int32} {Q A C K P D b : Nat → Nat} {xcel xah xpf xdf xch xmn mcel mah mpf mdf mch mmn : Nat → Int32} (hF : 9000 < F) (hN : N < 12) (hfs : fs = 1 ∨ fs = 2) (h : TI N nc base fs Q A C K P D b) (hn : TN nc A C K P D b (fun _ => False)) (hx : RW nc xcel xah xpf xdf xch xmn Q A C K P D) (hm : RW nc mcel mah mpf mdf mch mmn Q A C K P D) (hnn : nc ≤ nn) (hnn2 : nn ≤ 8000) :
    ∀ k i (l : List Nat) (xs : Nat → Int32), i < nc → PT A l i → ¬ P i = 0 → ¬ D i = 0 → BR N xs (sS base fs Q l) → nc < i + k →
    ∃ i' l' xs', pm_X4_descend_L4 F fs (N * N) nn xcel nn xpf nn xdf nn xch nn xmn k (nI i) (nI l.length) (sdl fs l.length) xs = some (nI i', sdl fs (List.length l'), xs') ∧ pm_X7_grow_L7 F fs 121 8000 mcel 8000 mpf 8000 mdf 8000 mch 8000 mmn k (nI i) (sdl fs l.length) (sS base fs Q l) = some (nI i', sdl fs (List.length l'), sS base fs Q l') ∧ i' < nc ∧ PT A l' i' ∧ K i' = 0 ∧ P i' = 1 ∧ D i' = 1 ∧ BR N xs' (sS base fs Q l') := by
  have hsq := sq_le hN
  have hb := b_le h
  have hlen := len_S hfs h
  have h' := h
  obtain ⟨h0, h1, h2, h3, h4, h5, h6, h7⟩ := h
  intro k
  induction k with
  | zero => intro i l xs hi _ _ _ _ hk; omega
  | succ k ih =>
    intro i l xs hi hp hP hD hB hk
    obtain ⟨x1, x2, x3, x4, x5, x6⟩ := hx i hi
    obtain ⟨m1, m2, m3, m4, m5, m6⟩ := hm i hi
    have hll := hlen l i hi hp
    rw [pm_X4_descend_L4, pm_X7_grow_L7, z_bd (show i < nn by omega) (by omega), z_bd (show i < 8000 by omega) (by omega), z_cl (show i < 2 ^ 31 by omega), x6, m6]
    by_cases hK : K i = 0
    · have e0 : nI (K i) ≤ 0 := by rw [hK, nI_0]; decide
      rw [if_pos e0, if_pos e0]
      have hv : P i = 1 ∧ D i = 1 := by have := h3 i hi hK; omega
      refine ⟨i, l, xs, ?_, rfl, hi, hp, hK, hv.1, hv.2, hB⟩
      split <;> rfl
    · have hK0 : 0 < K i := by omega
      obtain ⟨c1, c2, c3⟩ := h2 i hi hK0
      have e0 : ¬ nI (K i) ≤ 0 := nI_nle hK0 (by omega)
      obtain ⟨kx1, kx2, kx3⟩ := kids h' hn hx hi hp hK0 (fun _ _ _ q => q)
      obtain ⟨km1, km2, -⟩ := kids h' hn hm hi hp hK0 (fun _ _ _ q => q)
      have hxc : xch i = nI (C i) := by rw [x5, if_neg hK]
      have hmc : mch i = nI (C i) := by rw [m5, if_neg hK]
      have hdeep : l.length < N * N := by
        obtain ⟨q1, q2⟩ := h7 l (C i) (by omega) (by omega) (by rw [c3 (C i) (by omega) (by omega)]; exact hp)
        have := cnt_pos (p := em (sS base fs Q l)) q1 (decide_eq_true q2)
        omega
      have htri := (hn l i hi hp (fun q => q)).1
      have hbi := hb i hi
      have hrk := (hn l i hi hp (fun q => q)).2 hK0
      rw [if_neg e0, if_neg e0, z_gt hdeep (by omega)]
      have go : ∀ j, C i ≤ j → j < C i + K i → ¬ P j = 0 → ¬ D j = 0 → ∃ i' l' xs', (if nI j < 0 ∨ nn ≤ (nI j).toNatClampNeg then none else bd1 (pm_X0_put F (N * N) xs (xcel (nI j).toNatClampNeg) (sdl fs l.length)) fun st => bd1 (pm_X6_otherSide F (sdl fs l.length)) fun r => pm_X4_descend_L4 F fs (N * N) nn xcel nn xpf nn xdf nn xch nn xmn k (nI j) (nI l.length + 1) r st) = some (nI i', sdl fs (List.length l'), xs') ∧ (if nI j < 0 ∨ 8000 ≤ (nI j).toNatClampNeg then none else if mcel (nI j).toNatClampNeg < 0 ∨ 121 ≤ (mcel (nI j).toNatClampNeg).toNatClampNeg then none else pm_X7_grow_L7 F fs 121 8000 mcel 8000 mpf 8000 mdf 8000 mch 8000 mmn k (nI j) (3 - sdl fs l.length) (upd (sS base fs Q l) (mcel (nI j).toNatClampNeg).toNatClampNeg (vp_nar .byte (sdl fs l.length).toInt8.toInt32))) = some (nI i', sdl fs (List.length l'), sS base fs Q l') ∧ i' < nc ∧ PT A l' i' ∧ K i' = 0 ∧ P i' = 1 ∧ D i' = 1 ∧ BR N xs' (sS base fs Q l') := by
        intro j j1 j2 hPj hDj
        have hpj : PT A (j :: l) j := ⟨rfl, by omega, by rw [c3 j j1 j2]; exact hp⟩
        obtain ⟨q1, q2⟩ := h7 l j (by omega) (by omega) hpj.2.2
        have ex : xcel j = nI (Q j) := by rw [(hx j (by omega)).1, if_neg (by omega)]
        have em' : mcel j = nI (Q j) := by rw [(hm j (by omega)).1, if_neg (by omega)]
        rw [z_bd (show j < nn by omega) (by omega), z_bd (show j < 8000 by omega) (by omega), z_cl (show j < 2 ^ 31 by omega), ex, em', put_ok q1 (by omega), bd1_e, pm_X6_otherSide, bd1_e, z_bd (show Q j < 121 by omega) (by omega), z_cl (show Q j < 2 ^ 31 by omega), s3_byte (side_s3 (sdl_12 hfs _)), sdl_s, z_1]
        exact ih j (j :: l) (upd xs (Q j) (sdl fs l.length)) (by omega) hpj hPj hDj (hB.put (side_s3 (sdl_12 hfs _))) (by omega)
      by_cases hpar : l.length % 2 = 0
      · have hs : sdl fs l.length = fs := (sdl_fs hfs _).mpr hpar
        obtain ⟨a1, a2⟩ := amn_in (X := P) (c := C i) (K i) hK0
        have eP := (hrk.1 hpar).1
        have tj := kx3 (amn P (C i) (K i) - C i) (by omega)
        rw [show C i + (amn P (C i) (K i) - C i) = amn P (C i) (K i) by omega] at tj
        rw [if_pos hs, if_pos hs, bd1_e, least_ok hF (by omega) hnn2 hxc x6 hK0 (by omega) kx1, bd1_e, best1_ok hF (by omega) hmc m6 (by omega) km1, bd1_e]
        exact go (amn P (C i) (K i)) a1 a2 (by omega) (by unfold tri at *; omega)
      · have hs : ¬ sdl fs l.length = fs := fun q => hpar ((sdl_fs hfs _).mp q)
        obtain ⟨a1, a2⟩ := amn_in (X := D) (c := C i) (K i) hK0
        have eD := (hrk.2 hpar).1
        have tj := kx3 (amn D (C i) (K i) - C i) (by omega)
        rw [show C i + (amn D (C i) (K i) - C i) = amn D (C i) (K i) by omega] at tj
        rw [if_neg hs, if_neg hs, bd1_e, least_ok hF (by omega) hnn2 hxc x6 hK0 (by omega) kx2, bd1_e, best0_ok hF (by omega) hmc m6 (by omega) km2, bd1_e]
        exact go (amn D (C i) (K i)) a1 a2 (by unfold tri at *; omega) (by omega)
