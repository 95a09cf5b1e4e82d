/-! PURE: what the board's constructor lays -/
def niB (N x y k : Nat) : Bool := decide (pm_X0_numberIn 0 (nI N) (nI x + sAX k) (nI y + sAY k) = some (nbI N (N * y + x) k))
theorem ni_all : ∀ N, N < 12 → ∀ y, y < N → ∀ x, x < N → ∀ k, k < 6 → niB N x y k = true := by decide +kernel
theorem numberIn_ok {F N x y k : Nat} (hN : N < 12) (hy : y < N) (hx : x < N) (hk : k < 6) : pm_X0_numberIn F (nI N) (nI x + sAX k) (nI y + sAY k) = some (nbI N (N * y + x) k) := of_decide_eq_true (ni_all N hN y hy x hx k hk)
def emB (N x y : Nat) : Bool := decide (pm_X0_edgeMarks 0 (nI y) (nI N) = some (ev N 1 (N * y + x))) && decide (pm_X0_edgeMarks 0 (nI x) (nI N) = some (ev N 2 (N * y + x)))
theorem em_all : ∀ N, N < 12 → ∀ y, y < N → ∀ x, x < N → emB N x y = true := by decide +kernel
theorem edgeMarks_ok {F N x y : Nat} (hN : N < 12) (hy : y < N) (hx : x < N) : pm_X0_edgeMarks F (nI y) (nI N) = some (ev N 1 (N * y + x)) ∧ pm_X0_edgeMarks F (nI x) (nI N) = some (ev N 2 (N * y + x)) := by
  have h := em_all N hN y hy x hx
  unfold emB at h
  rw [Bool.and_eq_true] at h
  exact ⟨of_decide_eq_true h.1, of_decide_eq_true h.2⟩
theorem cell_lt {N x y : Nat} (hy : y < N) (hx : x < N) : N * y + x < N * N := by
  have h1 : N * (y + 1) ≤ N * N := Nat.mul_le_mul_left N hy
  rw [Nat.mul_succ] at h1
  omega
def NG (N p j : Nat) (near : Nat → Int32) : Prop := (∀ c, c < p → ∀ k, k < 6 → near (6 * c + k) = nbI N c k) ∧ ∀ k, k < j → near (6 * p + k) = nbI N p k
theorem init_L99 {F N x y : Nat} (hN : N < 12) (hy : y < N) (hx : x < N) : ∀ (k j : Nat) (near : Nat → Int32), j ≤ 6 → 6 < j + k → NG N (N * y + x) j near → ∃ near', pm_X0_init_L99 F (nI N) (nI y) (nI x) k (nI j) near = some near' ∧ NG N (N * y + x + 1) 0 near' := by
  have hn := sq_le hN
  have hc := cell_lt hy hx
  intro k
  induction k with
  | zero => intro j near h1 h2; omega
  | succ k ih =>
    intro j near h1 h2 hG
    rw [pm_X0_init_L99]
    by_cases h : j < 6
    · have hlen : ((nI N * nI N) * (6 : Int32)).toNatClampNeg = N * N * 6 := by
        rw [show (6 : Int32) = nI 6 from by decide, pk_mul, pk_mul, z_cl (by omega)]
      rw [hlen, show (6 : Int32) = nI 6 from by decide, z_gt h (by omega), z_bd h (by omega), z_cl (show j < 2 ^ 31 by omega), numberIn_ok hN hy hx h, bd1_e, pk_mul, nI_add, pk_mul, nI_add, z_bd (show 6 * (N * y + x) + j < N * N * 6 by omega) (by omega), z_cl (show 6 * (N * y + x) + j < 2 ^ 31 by omega), z_1]
      refine ih (j + 1) _ h (by omega) ⟨fun c hcc k' hk' => ?_, fun k' hk' => ?_⟩
      · rw [u_n (by omega)]; exact hG.1 c hcc k' hk'
      · by_cases e : k' = j
        · subst e; exact u_s
        · rw [u_n (by omega)]; exact hG.2 k' (by omega)
    · have : j = 6 := by omega
      subst this
      rw [show (6 : Int32) = nI 6 from by decide, z_le (Nat.le_refl _) (by omega)]
      refine ⟨near, rfl, fun c hcc k' hk' => ?_, fun k' hk' => by omega⟩
      by_cases e : c = N * y + x
      · subst e; exact hG.2 k' hk'
      · exact hG.1 c (by omega) k' hk'
theorem init_L61 {F N y : Nat} (hF : 200 < F) (hN : N < 12) (hy : y < N) : ∀ (k x : Nat) (near ed : Nat → Int32), x ≤ N → N < x + k → NG N (N * y + x) 0 near → (∀ c, c < N * y + x → ed c = edI N c) → ∃ near' ed', pm_X0_init_L61 F (nI N) (nI y) k (nI x) near ed = some (near', ed') ∧ NG N (N * y + N) 0 near' ∧ ∀ c, c < N * y + N → ed' c = edI N c := by
  have hn := sq_le hN
  intro k
  induction k with
  | zero => intro x near ed h1 h2; omega
  | succ k ih =>
    intro x near ed h1 h2 hG hE
    rw [pm_X0_init_L61]
    by_cases h : x < N
    · have hc := cell_lt hy h
      obtain ⟨m1, m2⟩ := edgeMarks_ok (F := F) hN hy h
      have hlen : (nI N * nI N).toNatClampNeg = N * N := by rw [pk_mul, z_cl (by omega)]
      obtain ⟨near', q1, q2⟩ := init_L99 (F := F) hN hy h F 0 near (by omega) (by omega) ⟨hG.1, fun k' hk' => by omega⟩
      rw [show nI 0 = (0 : Int32) from nI_0] at q1
      rw [z_gt h (by omega), m1, bd1_e, m2, bd1_e, hlen, pk_mul, nI_add, z_bd hc (by omega), q1, bd1_e, z_1, z_cl (show N * y + x < 2 ^ 31 by omega)]
      exact ih (x + 1) near' _ h (by omega) q2 (fun c hcc => by
        by_cases e : c = N * y + x
        · subst e; exact u_s
        · rw [u_n e]; exact hE c (by omega))
    · have : x = N := by omega
      subst this
      rw [z_le (Nat.le_refl _) (by omega)]
      exact ⟨near, ed, rfl, hG, hE⟩
theorem init_L53 {F N : Nat} (hF : 200 < F) (hN : N < 12) : ∀ (k y : Nat) (near ed : Nat → Int32), y ≤ N → N < y + k → NG N (N * y) 0 near → (∀ c, c < N * y → ed c = edI N c) → ∃ near' ed', pm_X0_init_L53 F (nI N) k (nI y) near ed = some (near', ed') ∧ NG N (N * N) 0 near' ∧ ∀ c, c < N * N → ed' c = edI N c := by
  have hn := sq_le hN
  intro k
  induction k with
  | zero => intro y near ed h1 h2; omega
  | succ k ih =>
    intro y near ed h1 h2 hG hE
    rw [pm_X0_init_L53]
    by_cases h : y < N
    · obtain ⟨near', ed', q1, q2, q3⟩ := init_L61 (F := F) hF hN h F 0 near ed (by omega) (by omega) hG hE
      rw [show nI 0 = (0 : Int32) from nI_0] at q1
      rw [z_gt h (by omega), q1, bd2_e, z_1]
      exact ih (y + 1) near' ed' h (by omega) (by rw [Nat.mul_succ]; exact q2) (by rw [Nat.mul_succ]; exact q3)
    · have : y = N := by omega
      subst this
      rw [z_le (Nat.le_refl _) (by omega)]
      exact ⟨near, ed, rfl, hG, hE⟩
theorem gs_e {g n : Nat} (h : n + 1 ≤ g) : gs g n = some (g - (n + 1)) := by
  unfold gs
  rw [if_neg (by omega)]
/-- Board(size) -/
theorem board_init {F N g : Nat} (hF : 200 < F) (hN : N < 12) (hg : 5000 ≤ g) : ∃ near ed g', pm_X0_init F g (nI N) = some (nI N, N * N, (fun _ => 0), 6 * (N * N), near, N * N, ed, N * N, (fun _ => 0), N * N, (fun _ => 0), g') ∧ g ≤ g' + 2000 ∧ (∀ c, c < N * N → ∀ k, k < 6 → near (6 * c + k) = nbI N c k) ∧ ∀ c, c < N * N → ed c = edI N c := by
  have hn := sq_le hN
  obtain ⟨near, ed, q1, q2, q3⟩ := init_L53 (F := F) hF hN F 0 (fun _ => 0) (fun _ => 0) (by omega) (by omega) ⟨fun c hc => by omega, fun k hk => by omega⟩ (fun c hc => by omega)
  rw [show nI 0 = (0 : Int32) from nI_0] at q1
  have hlen : (nI N * nI N).toNatClampNeg = N * N := by rw [pk_mul, z_cl (by omega)]
  have hlen6 : ((nI N * nI N) * (6 : Int32)).toNatClampNeg = 6 * (N * N) := by
    rw [show (6 : Int32) = nI 6 from by decide, pk_mul, pk_mul, z_cl (by omega)]; omega
  have hp : ¬ ((nI N * nI N) < 0 ∨ 100000 < N * N) := by
    rw [pk_mul]
    rintro (h | h)
    · exact nI_neg (by omega) h
    · omega
  have hp6 : ¬ (((nI N * nI N) * (6 : Int32)) < 0 ∨ 100000 < 6 * (N * N)) := by
    rw [show (6 : Int32) = nI 6 from by decide, pk_mul, pk_mul]
    rintro (h | h)
    · exact nI_neg (by omega) h
    · omega
  rw [pm_X0_init, hlen, hlen6, if_neg hp, gs_e (by omega), bd1_e, if_neg hp6, gs_e (by omega), bd1_e, if_neg hp, gs_e (by omega), bd1_e, if_neg hp, gs_e (by omega), bd1_e, if_neg hp, gs_e (by omega), bd1_e, q1, bd2_e]
  exact ⟨near, ed, _, rfl, by omega, q2.1, q3⟩
