/-! PURE: the checker's way up, on both sides -/
def NW (N : Nat) (st : Nat → Int32) : Prop := ¬ Won N st 1 ∧ ¬ Won N st 2
theorem NW.congr {N : Nat} {st st' : Nat → Int32} (hN : N < 12) (he : ∀ i, i < N * N → st' i = st i) (h : NW N st) : NW N st' := ⟨fun q => h.1 ((won_iff hN he).mp q), fun q => h.2 ((won_iff hN he).mp q)⟩
def PP (xa : Nat → Int32) : List Nat → Int32 → Prop
  | [], t => t = -1
  | q :: l, t => t = nI q ∧ q < 8000 ∧ PP xa l (xa q)
def WV (wv : Nat → Int32) : List Nat → Prop
  | [] => True
  | q :: l => wv l.length = nI q ∧ WV wv l
def PI (N tc : Nat) (mc base : Nat → Int32) : List Nat → (Nat → Int32) → Prop
  | [], st => ∀ c, c < N * N → st c = base c
  | q :: l, st => q < tc ∧ ∃ c, c < N * N ∧ mc q = nI c ∧ ¬ st c = 0 ∧ NW N (upd st c 0) ∧ PI N tc mc base l (upd st c 0)
theorem WV.congr {v v' : Nat → Int32} : ∀ {l : List Nat}, WV v l → (∀ i, i < l.length → v' i = v i) → WV v' l := by
  intro l
  induction l with
  | nil => intro _ _; trivial
  | cons q l ih =>
    intro h h2
    exact ⟨(h2 l.length (Nat.lt_succ_self _)).trans h.1, ih h.2 (fun i hi => h2 i (Nat.lt_succ_of_lt hi))⟩
theorem PI.len {N tc : Nat} {mc base : Nat → Int32} : ∀ {l : List Nat} {st : Nat → Int32}, PI N tc mc base l st → l.length + cnt (em st) (N * N) ≤ N * N := by
  intro l
  induction l with
  | nil => intro st h; have := cnt_le (em st) (N * N); show 0 + _ ≤ _; omega
  | cons q l ih =>
    intro st h
    obtain ⟨h1, c, hc, h2, h3, h4, h5⟩ := h
    have := ih h5
    have e : cnt (em (upd st c 0)) (N * N) = cnt (em st) (N * N) + 1 := cnt_upd hc (decide_eq_false h3) (by unfold em; rw [u_s]; decide) (fun d _ hd => by unfold em; rw [u_n hd])
    show l.length + 1 + _ ≤ _
    omega
/-- both climb -/
theorem climb_both {F N tc tn nn : Nat} {xa xc mc ne be base v : Nat → Int32} {X4 X5 : Int32} (hN : N < 12) (h8 : tc ≤ 8000) (htn : tc ≤ tn) (htn2 : tn ≤ 8000) (hnn : tc ≤ nn) (hnn2 : nn ≤ 8000) (hl : NB tc xc mc ne be) (hK : ∀ i, i < tc → ∀ j, ne i = nI j → j < tc → xa j = xa i) :
    ∀ (l : List Nat) k up (t x8 mv : Int32) (xs ms : Nat → Int32), l.length < k → up + l.length ≤ N * N → PP xa l t → WV (upd v X5.toNatClampNeg X4) l → PI N tc mc base l ms → BR N xs ms → (mv = 1 ∨ mv = 2) → x8 < 0 →
    ∃ nxt mv' xs' ms' l' nx8, pm_X1_climbToNext_L7 F (N * N) tn xa tn xc nn ne k t (-1) (nI up) mv xs = some (nxt, mv', xs') ∧ pm_X7_check_L185_2 F 121 8000 mc 8000 122 be X4 X5 v k mv (nI l.length) x8 ms = some (mv', nI (List.length l'), nx8, ms') ∧ BR N xs' ms' ∧ PI N tc mc base l' ms' ∧ WV (upd v X5.toNatClampNeg X4) l' ∧ (mv' = 1 ∨ mv' = 2) ∧ ((nxt = -1 ∧ nx8 < 0 ∧ l' = []) ∨ ∃ q j pre, q < tc ∧ j < tc ∧ nxt = nI j ∧ nx8 = nI j ∧ q < j ∧ xa j = xa q ∧ PP xa l' (xa j) ∧ NW N ms' ∧ l = pre ++ q :: l') := by
  have hn := sq_le hN
  intro l
  induction l with
  | nil =>
    intro k up t x8 mv xs ms hk hup hP hW hI hB hmv hx8
    obtain ⟨k', rfl⟩ : ∃ k', k = k' + 1 := ⟨k - 1, by have : 0 < k := hk; omega⟩
    have ht : t = -1 := hP
    subst ht
    refine ⟨-1, mv, xs, ms, [], x8, ?_, ?_, hB, hI, hW, hmv, Or.inl ⟨rfl, hx8, rfl⟩⟩
    · rw [pm_X1_climbToNext_L7, if_pos (show (-1 : Int32) = -1 from rfl), if_pos (show (-1 : Int32) = -1 from rfl)]
      split <;> rfl
    · rw [pm_X7_check_L185_2, if_neg (fun q => absurd hx8 (by
        have a := Int32.le_iff_toInt_le.mp q
        intro b
        have b := Int32.lt_iff_toInt_lt.mp b
        omega)), if_pos (show nI ([] : List Nat).length ≤ 0 by show nI 0 ≤ 0; rw [nI_0]; decide)]
  | cons q l ih =>
    intro k up t x8 mv xs ms hk hup hP hW hI hB hmv hx8
    obtain ⟨k', rfl⟩ : ∃ k', k = k' + 1 := ⟨k - 1, by omega⟩
    have hk' : l.length < k' := by
      have : l.length + 1 < k' + 1 := hk
      omega
    have hup' : up + 1 + l.length ≤ N * N := by
      have : up + (l.length + 1) ≤ N * N := hup
      omega
    obtain ⟨rfl, hq8, hP2⟩ := hP
    obtain ⟨hW1, hW2⟩ := hW
    obtain ⟨hq, c, hc, h2, h3, h4, h5⟩ := hI
    obtain ⟨l1, l2, l3⟩ := hl q hq
    have hlen : nI (q :: l).length = nI (l.length + 1) := rfl
    have hB' : BR N (upd xs c 0) (upd ms c 0) := hB.put (Or.inl rfl)
    have n8 : ¬ (0 : Int32) ≤ x8 := fun q => absurd hx8 (by
      have a := Int32.le_iff_toInt_le.mp q
      intro b
      have b := Int32.lt_iff_toInt_lt.mp b
      omega)
    rw [pm_X1_climbToNext_L7, pm_X7_check_L185_2, hlen, z_gt (show up < N * N by omega) (by omega), if_pos (show (-1 : Int32) = -1 from rfl), if_neg (nI_m1 (show q < 2 ^ 31 by omega)), if_neg n8, if_neg (nI_nle (Nat.succ_pos _) (show l.length + 1 < 2 ^ 31 by omega)), pk_m1, z_bd (show l.length < 122 by omega) (by omega), z_cl (show l.length < 2 ^ 31 by omega), hW1, z_bd (show q < tn by omega) (by omega), z_bd (show q < 8000 by omega) (by omega), z_cl (show q < 2 ^ 31 by omega), ← l1, h2, put_ok hc (by omega), bd1_e, pm_X6_otherSide, bd1_e, if_neg (z_in (show q < nn by omega) (by omega)), if_neg (z_in (show q < tn by omega) (by omega)), z_1, z_bd (show c < 121 by omega) (by omega), z_cl (show c < 2 ^ 31 by omega), if_neg (z_in (show q < 8000 by omega) (by omega)), show vp_nar .byte (0 : Int32) = 0 from by decide, l2]
    rcases l3 with e | ⟨j, j1, j2, j3⟩
    · rw [e]
      obtain ⟨nxt, mv', xs', ms', l', nx8, r1, r2, r3, r4, r5, r6, r7⟩ := ih k' (up + 1) (xa q) (-1) (3 - mv) (upd xs c 0) (upd ms c 0) hk' hup' hP2 hW2 h5 hB' (other_ok hmv) (by decide)
      refine ⟨nxt, mv', xs', ms', l', nx8, r1, r2, r3, r4, r5, r6, ?_⟩
      rcases r7 with r7 | ⟨q', j, pre, a1, a2, a3, a4, a5, a6, a7, a8, a9⟩
      · exact Or.inl r7
      · exact Or.inr ⟨q', j, q :: pre, a1, a2, a3, a4, a5, a6, a7, a8, by rw [a9]; rfl⟩
    · obtain ⟨k'', rfl⟩ : ∃ k'', k' = k'' + 1 := ⟨k' - 1, by omega⟩
      have ex := hK q hq j j3 j2
      rw [j3]
      refine ⟨nI j, 3 - mv, upd xs c 0, upd ms c 0, l, nI j, ?_, ?_, hB', h5, hW2, other_ok hmv, Or.inr ⟨q, j, [], hq, j2, rfl, rfl, j1, ex, by rw [ex]; exact hP2, h4, rfl⟩⟩
      · rw [pm_X1_climbToNext_L7, if_neg (nI_m1 (show j < 2 ^ 31 by omega))]
        split <;> rfl
      · rw [pm_X7_check_L185_2, if_pos (nI_pos' (show j < 2 ^ 31 by omega))]
theorem PP_le {tc tn : Nat} {xa xc ma mc : Nat → Int32} (h : TR tc tn xa xc ma mc) : ∀ (l : List Nat) (b : Nat), b < tc → PP xa l (nI b) → ∀ a, a ∈ l → a ≤ b := by
  have h8 := h.1
  intro l
  induction l with
  | nil => intro b hb hP a ha; cases ha
  | cons q l ih =>
    intro b hb hP a ha
    obtain ⟨e, hq8, hP2⟩ := hP
    have hqb : b = q := (nI_eq (by omega) (by omega)).mp e
    subst hqb
    cases ha with
    | head => exact Nat.le_refl _
    | tail _ ha =>
      rcases h.2.2.2.2 b hb with r | ⟨r, r1, r2⟩
      · cases l with
        | nil => cases ha
        | cons q' l' =>
          rw [r] at hP2
          exact absurd hP2.1.symm (nI_m1 (by have := hP2.2.1; omega))
      · rw [r2] at hP2
        have := ih r (by omega) hP2 a ha
        omega
