/-! PURE: rows that are doubled -/
def LL (n : Nat) : Prop := n = 16 ∨ n = 32 ∨ n = 64 ∨ n = 128 ∨ n = 256 ∨ n = 512 ∨ n = 1024 ∨ n = 2048 ∨ n = 4096 ∨ n = 8000
def dbl (n : Nat) : Nat := if 8000 < 2 * n then 8000 else 2 * n
theorem LL_dbl {n : Nat} (h : LL n) (h8 : n < 8000) : LL (dbl n) ∧ n < dbl n ∧ dbl n ≤ 8000 ∧ 16 ≤ n ∧ 2 * (dbl n + 1) + 5 * n ≤ 5 * dbl n ∧ 6 * (dbl n + 1) + 13 * n ≤ 13 * dbl n := by
  unfold LL at *
  rcases h with rfl | rfl | rfl | rfl | rfl | rfl | rfl | rfl | rfl | rfl
  all_goals first | (exact absurd h8 (by decide)) | (refine ⟨by decide, by decide, by decide, by decide, by decide, by decide⟩)
theorem LL_le {n : Nat} (h : LL n) : 16 ≤ n ∧ n ≤ 8000 := by
  unfold LL at h
  omega
theorem roomier_ok {F n : Nat} (h : LL n) (h8 : n < 8000) : pm_X6_roomierLength F (nI n) = some (nI (dbl n)) := by
  unfold LL at h
  rcases h with rfl | rfl | rfl | rfl | rfl | rfl | rfl | rfl | rfl | rfl
  all_goals first | (exact absurd h8 (by decide)) | (rw [pm_X6_roomierLength]; decide)
theorem copyOf_ok {F g n n' : Nat} {v : Nat → Int32} (h : n < n') (h8 : n' ≤ 8000) (hg : n' + 1 ≤ g) : pm_J7_copyOf_59c91 F g n v (nI n') = some (n', va_cpy v (fun _ => 0) 0 0 n, g - (n' + 1)) := by
  have e0 : (0 : Int32).toNatClampNeg = 0 := by decide
  have e1 : (if nI n' < nI n then nI n' else nI n) = nI n := if_neg (nI_nlt (by omega) (by omega))
  rw [pm_J7_copyOf_59c91, if_neg (fun e => absurd ((nI_eq (by omega) (by omega)).mp e) (by omega)), z_cl (show n' < 2 ^ 31 by omega), if_neg (by
    rintro (h1 | h1)
    · exact nI_neg (by omega) h1
    · omega), gs_e hg, bd1_e, e1, z_cl (show n < 2 ^ 31 by omega), e0, if_neg (by
    rintro (h1 | h1 | h1 | h1 | h1)
    · exact absurd h1 (by decide)
    · exact absurd h1 (by decide)
    · exact nI_neg (by omega) h1
    · omega
    · omega)]
theorem cpy_lo {v w : Nat → Int32} {n i : Nat} (h : i < n) : va_cpy v w 0 0 n i = v i := by
  unfold va_cpy
  rw [if_pos ⟨Nat.zero_le _, by omega⟩, Nat.sub_zero, Nat.zero_add]
/-- an entry more -/
theorem add_ok {F g c n : Nat} {ah ce : Nat → Int32} {x y : Int32} (hc : c < 8000) (hcn : c ≤ n) (hL : LL n) (hg : 5 * 8000 ≤ g + 5 * n) :
    ∃ n' ah' ce' g', pm_X2_add F g (nI c) n ah n ce x y = some (nI c, nI (c + 1), n', ah', n', ce', g') ∧ LL n' ∧ n ≤ n' ∧ c + 1 ≤ n' ∧ (∀ i, i < c → ah' i = ah i) ∧ ah' c = x ∧ (∀ i, i < c → ce' i = ce i) ∧ ce' c = y ∧ g + 5 * n ≤ g' + 5 * n' ∧ g' ≤ g := by
  have hl := LL_le hL
  have e8 : (8000 : Int32) = nI 8000 := by decide
  have ret : nI c + (1 : Int32) - (1 : Int32) = nI c := by rw [z_1]; exact nI_pred c
  rw [pm_X2_add, e8, if_pos (nI_lt hc (by omega)), ret, z_1, z_cl (show c < 2 ^ 31 by omega)]
  by_cases h : c < n
  · rw [if_pos (nI_lt h (by omega)), bd5_e, if_neg (z_in h (by omega)), if_neg (z_in h (by omega))]
    exact ⟨n, _, _, g, rfl, hL, Nat.le_refl _, h, fun i hi => u_n (by omega), u_s, fun i hi => u_n (by omega), u_s, Nat.le_refl _, Nat.le_refl _⟩
  · have hcn2 : c = n := by omega
    subst hcn2
    obtain ⟨d1, d2, d3, d4, d5, d6⟩ := LL_dbl hL hc
    rw [if_neg (nI_nlt (Nat.le_refl _) (by omega)), roomier_ok hL hc, bd1_e, copyOf_ok d2 d3 (by omega), bd3_e, copyOf_ok d2 d3 (by omega), bd3_e, bd5_e, if_neg (z_in d2 (by omega)), if_neg (z_in d2 (by omega))]
    exact ⟨dbl c, _, _, _, rfl, d1, by omega, by omega, fun i hi => (u_n (by omega)).trans (cpy_lo hi), u_s, fun i hi => (u_n (by omega)).trans (cpy_lo hi), u_s, by omega, by omega⟩
theorem add_full {F g n : Nat} {ah ce : Nat → Int32} {x y : Int32} : pm_X2_add F g (nI 8000) n ah n ce x y = some (-1, nI 8000, n, ah, n, ce, g) := by
  have e8 : (8000 : Int32) = nI 8000 := by decide
  rw [pm_X2_add, e8, if_neg (nI_nlt (Nat.le_refl _) (by omega))]
/-! what is said of stones below N * N alone -/
theorem Ch.congr {N a c : Nat} {st st' : Nat → Int32} (hN : N < 12) (ha : a < N * N) (he : ∀ i, i < N * N → st' i = st i) (h : Ch N st a c) : Ch N st' a c := by
  refine h.ind (fun x => Ch N st' a x) Ch.rf ?_
  intro x y hx hP ⟨k, hk, h1, h2⟩
  have lx := hx.lt hN ha
  have ly := (nbr_ok hN lx hk h1).1
  exact hP.step ⟨k, hk, h1, by rw [he x lx, he y ly]; exact h2⟩
theorem Won.congr {N : Nat} {st st' : Nat → Int32} {s : Int32} (hN : N < 12) (he : ∀ i, i < N * N → st' i = st i) (h : Won N st s) : Won N st' s := by
  obtain ⟨a, b, h1, h2, h3, h4, h5⟩ := h
  exact ⟨a, b, h1, (he a h1).trans h2, h3, h4.congr hN h1 he, h5⟩
theorem won_iff {N : Nat} {st st' : Nat → Int32} {s : Int32} (hN : N < 12) (he : ∀ i, i < N * N → st' i = st i) : Won N st' s ↔ Won N st s := ⟨fun h => h.congr hN (fun i hi => (he i hi).symm), fun h => h.congr hN he⟩
theorem LN.congr {N a d : Nat} {st st' : Nat → Int32} (hN : N < 12) (ha : a < N * N) (he : ∀ i, i < N * N → st' i = st i) (h : LN N st a d) : LN N st' a d := ⟨h.1.congr hN ha he, fun c hc => h.2 c (hc.congr hN ha (fun i hi => (he i hi).symm))⟩
theorem ld_congr {N q : Nat} {st st' : Nat → Int32} (hN : N < 12) (hq : q < N * N) (he : ∀ i, i < N * N → st' i = st i) : ld N st' q = ld N st q := by
  by_cases h : st q ≠ 0 ∧ LN N st q q
  · rw [ld_t h, ld_t ⟨by rw [he q hq]; exact h.1, h.2.congr hN hq he⟩]
  · rw [ld_f h, ld_f (fun h2 => h ⟨by rw [← he q hq]; exact h2.1, h2.2.congr hN hq (fun i hi => (he i hi).symm)⟩)]
theorem cnt_ld {N : Nat} {st st' : Nat → Int32} (hN : N < 12) (he : ∀ i, i < N * N → st' i = st i) : cnt (ld N st') (N * N) = cnt (ld N st) (N * N) := cnt_congr _ (fun j hj => ld_congr hN hj he)
theorem cnt_em {n : Nat} {st st' : Nat → Int32} (he : ∀ i, i < n → st' i = st i) : cnt (em st') n = cnt (em st) n := cnt_congr _ (fun j hj => by unfold em; rw [he j hj])
