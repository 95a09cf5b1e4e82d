/-! PURE: search, the whole call -/
theorem TI_1 {N : Nat} {base : Nat → Int32} {fs : Int32} (hW : NW N base) : TI N 1 base fs (fun _ => 0) (fun _ => 0) (fun _ => 0) (fun _ => 0) (fun _ => 1) (fun _ => 1) (fun _ => 1) ∧ TN 1 (fun _ => 0) (fun _ => 0) (fun _ => 0) (fun _ => 1) (fun _ => 1) (fun _ => 1) (fun _ => False) := by
  refine ⟨⟨by omega, fun i a b => by omega, fun i a b => ?_, fun i a b => Or.inl ⟨rfl, rfl⟩, fun i a => ⟨Nat.le_refl _, fun b => ?_⟩, Nat.le_refl _, fun l i a b c => ?_, fun l q a b => by omega⟩, fun l i a b c => ⟨Or.inr (Or.inr ⟨Nat.le_refl 1, Nat.le_refl 1, Nat.le_refl 1, Nat.le_refl 1⟩), fun d => ?_⟩⟩
  · have : 0 < 0 := b
    omega
  · have : 0 < 0 := b
    omega
  · cases l with
    | nil => exact hW
    | cons q l =>
      have h1 := b.1
      have h2 := b.2.1
      omega
  · have : 0 < 0 := d
    omega
theorem ND_of {nc nn : Nat} {a1 a2 a3 a4 a5 a6 b1 b2 b3 b4 b5 b6 : Nat → Int32} {Q A C K P D : Nat → Nat} (h8 : nc ≤ 8000) (hn : nc ≤ nn) (hL : LL nn) (hx : RW nc a1 a2 a3 a4 a5 a6 Q A C K P D) (hm : RW nc b1 b2 b3 b4 b5 b6 Q A C K P D) : ND nc nn a1 a2 a3 a4 a5 a6 b1 b2 b3 b4 b5 b6 := by
  refine ⟨h8, hn, hL, fun i hi => ?_⟩
  obtain ⟨x1, x2, x3, x4, x5, x6⟩ := hx i hi
  obtain ⟨m1, m2, m3, m4, m5, m6⟩ := hm i hi
  rw [x1, x2, x3, x4, x5, x6, m1, m2, m3, m4, m5, m6]
  exact ⟨rfl, rfl, rfl, rfl, rfl, rfl⟩
theorem root_both {F g nn N : Nat} {a1 a2 a3 a4 a5 a6 e1 e2 e3 e4 e5 e6 ms seen wave : Nat → Int32} {fs w : Int32} (hL : LL nn) (hg : 13 * 8000 ≤ g + 13 * nn) :
    ∃ nn' b1 b2 b3 b4 b5 b6 g' f1 f2 f3 f4 f5 f6, pm_X3_add F g 0 nn a1 nn a2 nn a3 nn a4 nn a5 nn a6 (-1) (-1) = some (nI 0, nI 1, nn', b1, nn', b2, nn', b3, nn', b4, nn', b5, nn', b6, g') ∧ pm_X7_makeNode F (nI N) (nI (N * N)) 0 w fs 121 ms 8000 e1 8000 e2 8000 e3 8000 e4 8000 e5 8000 e6 121 seen 121 wave (-1) (-1) = some (nI 1, w, f1, f2, f3, f4, f5, f6, seen, wave) ∧ LL nn' ∧ nn ≤ nn' ∧ g + 13 * nn ≤ g' + 13 * nn' ∧ g' ≤ g ∧ RW 1 b1 b2 b3 b4 b5 b6 (fun _ => 0) (fun _ => 0) (fun _ => 0) (fun _ => 0) (fun _ => 1) (fun _ => 1) ∧ RW 1 f1 f2 f3 f4 f5 f6 (fun _ => 0) (fun _ => 0) (fun _ => 0) (fun _ => 0) (fun _ => 1) (fun _ => 1) := by
  have hl := LL_le hL
  obtain ⟨nn', b1, b2, b3, b4, b5, b6, g', q1, q2, q3, q4, q5, q6, q7, q8, q9, q10, q11, q12, q13⟩ := nadd_ok (F := F) (nc := 0) (a1 := a1) (a2 := a2) (a3 := a3) (a4 := a4) (a5 := a5) (a6 := a6) (-1) (-1) (by omega) (by omega) hL hg
  have et0 : (0 : Int32).toNatClampNeg = 0 := by decide
  have e01 : (0 : Int32) + 1 = nI 1 := by decide
  have bb : ¬ ((0 : Int32) < 0 ∨ 8000 ≤ 0) := by decide
  refine ⟨nn', b1, b2, b3, b4, b5, b6, g', upd e1 0 (-1), upd e2 0 (-1), upd e3 0 1, upd e4 0 1, upd e5 0 (-1), upd e6 0 0, ?_, ?_, q2, q3, q12, q13, ?_, ?_⟩
  · rw [show nI 0 = (0 : Int32) from nI_0] at q1 ⊢
    exact q1
  · rw [pm_X7_makeNode, et0, e01]
    simp only [if_neg bb]
    rw [if_neg (show ¬ (0 : Int32) ≤ -1 by decide), bd4_e, if_pos rfl, if_pos rfl, bd1_e, bd1_e]
  · intro i hi
    have : i = 0 := by omega
    subst this
    exact ⟨q6.trans (if_pos rfl).symm, q7.trans (if_pos rfl).symm, q8.trans (by decide), q9.trans (by decide), q10.trans (if_pos rfl).symm, q11.trans nI_0.symm⟩
  · intro i hi
    have : i = 0 := by omega
    subst this
    exact ⟨u_s.trans (if_pos rfl).symm, u_s.trans (if_pos rfl).symm, u_s.trans (by decide), u_s.trans (by decide), u_s.trans (if_pos rfl).symm, u_s.trans nI_0.symm⟩
theorem budget_of {x : Int32} (h1 : ¬ x < 1) (h8 : ¬ (8000 : Int32) < x) : ∃ bu, 1 ≤ bu ∧ bu ≤ 8000 ∧ x = nI bu := by
  have a : ¬ x.toInt < (1 : Int32).toInt := fun q => h1 (Int32.lt_iff_toInt_lt.mpr q)
  have b : ¬ (8000 : Int32).toInt < x.toInt := fun q => h8 (Int32.lt_iff_toInt_lt.mpr q)
  have e1 : (1 : Int32).toInt = 1 := by decide
  have e8 : (8000 : Int32).toInt = 8000 := by decide
  refine ⟨x.toInt.toNat, by omega, by omega, ?_⟩
  apply Int32.toInt_inj.mp
  rw [nI_toInt (by omega)]
  omega
theorem PT_ex {A : Nat → Nat} {nc : Nat} (hA : ∀ i, 0 < i → i < nc → A i < i) : ∀ n i, i < n → i < nc → ∃ l, PT A l i := by
  intro n
  induction n with
  | zero => intro i h; omega
  | succ n ih =>
    intro i h1 h2
    by_cases e : i = 0
    · exact ⟨[], e⟩
    · obtain ⟨l, hl⟩ := ih (A i) (by have := hA i (by omega) h2; omega) (by have := hA i (by omega) h2; omega)
      exact ⟨i :: l, rfl, by omega, hl⟩
theorem xwrite_ok {F g N nn pn : Nat} {cel ah pf df ch mn zv pa pe : Nat → Int32} {fs wn : Int32} {R : Int32 × Nat × (Nat → Int32) × Nat × (Nat → Int32) × Nat} (hv : (wn = fs ∧ zv = pf) ∨ (¬ wn = fs ∧ zv = df)) (hR : bd1 (pm_X4_firstInPlan F nn ch nn mn nn zv (nI 0) (og fs wn 0)) (fun r => pm_X4_writePlan_L61 F (N * N) nn cel nn ah nn zv nn ch nn mn (nI 0) F (og fs wn 0) (-1) r 0 0 pn pa pn pe g) = some R) : pm_X4_writePlan F g fs (N * N) nn cel nn ah nn pf nn df nn ch nn mn 0 pn pa pn pe (nI 0) wn = some R := by
  obtain ⟨R1, R2, R3, R4, R5, R6⟩ := R
  cases hf : pm_X4_firstInPlan F nn ch nn mn nn zv (nI 0) (og fs wn 0) with
  | none => rw [hf] at hR; cases hR
  | some v =>
    rw [hf, bd1_e] at hR
    rcases hv with ⟨h1, rfl⟩ | ⟨h1, rfl⟩
    · have hog : og fs wn 0 = 1 := if_pos (show sdl fs 0 = wn from h1.symm)
      rw [hog] at hf hR
      rw [pm_X4_writePlan, if_pos h1, if_pos h1, bd1_e, hf, bd1_e, W61_eq, hR, bd6_e]
    · have hog : og fs wn 0 = 0 := if_neg (fun q : sdl fs 0 = wn => h1 q.symm)
      rw [hog] at hf hR
      rw [pm_X4_writePlan, if_neg h1, if_neg h1, bd1_e, hf, bd1_e, hR, bd6_e]
theorem search_both {F g N nc nn ec pn : Nat} {xs ms near ed m z bs bnear bed bm bz a1 a2 a3 a4 a5 a6 b1 b2 b3 b4 b5 b6 pa pe sa sc seen wave op be : Nat → Int32} (mv sf smv bud wins waves first x : Int32) (hF : 9000 < F) (hN : N < 12) (h0 : 0 < N) (hmv : mv = 1 ∨ mv = 2) (hnear : ∀ c, c < N * N → ∀ k, k < 6 → near (6 * c + k) = nbI N c k) (hed : ∀ c, c < N * N → ed c = edI N c) (hbnear : ∀ c, c < N * N → ∀ k, k < 6 → bnear (6 * c + k) = nbI N c k) (hbed : ∀ c, c < N * N → bed c = edI N c) (hB : BR N xs ms) (hND : ND nc nn a1 a2 a3 a4 a5 a6 b1 b2 b3 b4 b5 b6) (hTR : TR ec pn pa pe sa sc) (hg : 13 * 8000 + 5 * 8000 ≤ g + 13 * nn + 5 * pn) :
    ∃ r m' z' bs' bm' bz' sf' smv' nc' nn' a1' a2' a3' a4' a5' a6' ec' pn' pa' pe' g' bud' wins' waves' first' ms' b1' b2' b3' b4' b5' b6' sa' sc' seen' wave' op' be', pm_X6_search F g mv (N * N) xs (6 * (N * N)) near (N * N) ed (N * N) m (N * N) z (N * N) bs (6 * (N * N)) bnear (N * N) bed (N * N) bm (N * N) bz sf smv (nI nc) nn a1 nn a2 nn a3 nn a4 nn a5 nn a6 (nI ec) pn pa pn pe x = some (r, m', z', bs', bm', bz', sf', smv', nI nc', nn', a1', nn', a2', nn', a3', nn', a4', nn', a5', nn', a6', nI ec', pn', pa', pn', pe', g') ∧ pm_X7_search F (nI N) (nI (N * N)) mv (nI nc) bud wins (nI ec) waves first 121 ms 8000 b1 8000 b2 8000 b3 8000 b4 8000 b5 8000 b6 8000 sa 8000 sc 121 seen 121 wave 8200 op 8200 be x = some (r, nI nc', bud', wins', nI ec', waves', first', ms', b1', b2', b3', b4', b5', b6', sa', sc', seen', wave', op', be') ∧ ND nc' nn' a1' a2' a3' a4' a5' a6' b1' b2' b3' b4' b5' b6' ∧ TR ec' pn' pa' pe' sa' sc' ∧ BR N xs ms' ∧ g + 13 * nn + 5 * pn ≤ g' + 13 * nn' + 5 * pn' ∧ g' ≤ g := by
  have hsq := sq_le hN
  have hl := LL_le hND.2.2.1
  have hpl := LL_le hTR.2.2.1
  rw [pm_X6_search, pm_X7_search]
  by_cases hx1 : x < 1
  · rw [if_pos hx1, if_pos hx1]
    exact ⟨_, _, _, _, _, _, _, _, nc, nn, _, _, _, _, _, _, ec, pn, _, _, g, _, _, _, _, _, _, _, _, _, _, _, _, _, _, _, _, _, rfl, rfl, hND, hTR, hB, Nat.le_refl _, Nat.le_refl _⟩
  rw [if_neg hx1, if_neg hx1]
  by_cases hx8 : (8000 : Int32) < x
  · rw [if_pos hx8, if_pos hx8]
    exact ⟨_, _, _, _, _, _, _, _, nc, nn, _, _, _, _, _, _, ec, pn, _, _, g, _, _, _, _, _, _, _, _, _, _, _, _, _, _, _, _, _, rfl, rfl, hND, hTR, hB, Nat.le_refl _, Nat.le_refl _⟩
  rw [if_neg hx8, if_neg hx8]
  obtain ⟨bu, bu1, bu2, rfl⟩ := budget_of hx1 hx8
  obtain ⟨r, m', z', w', seen', wave', q1, q2, q3⟩ := winner_both (F := F) (m := m) (z := z) (seen := seen) (wave := wave) (by omega) hN h0 hnear hed hB
  rw [q1, q2, bd3_e, bd4_e]
  by_cases hr : r = 0
  · have hNWx : NW N xs := by
      rcases q3 with ⟨a, b⟩ | ⟨a, b, c⟩ | ⟨a, b, c⟩
      · rw [hr] at a; exact absurd a (by decide)
      · rw [hr] at a; exact absurd a (by decide)
      · exact ⟨b, c⟩
    have hNW : NW N ms := hNWx.congr hN (fun i hi => (hB i hi).2)
    have hB2 : BR N (va_cpy xs bs 0 0 (N * N)) ms := fun c hc => by rw [cpy_lo hc]; exact hB c hc
    obtain ⟨nn1, c1, c2, c3, c4, c5, c6, g1, f1, f2, f3, f4, f5, f6, k1, k2, k3, k4, k5, k6, k7, k8⟩ := root_both (F := F) (g := g) (N := N) (a1 := a1) (a2 := a2) (a3 := a3) (a4 := a4) (a5 := a5) (a6 := a6) (e1 := b1) (e2 := b2) (e3 := b3) (e4 := b4) (e5 := b5) (e6 := b6) (ms := ms) (seen := seen') (wave := wave') (fs := mv) (w := nI w') hND.2.2.1 (by omega)
    have hl1 := LL_le k3
    obtain ⟨t1, t2⟩ := TI_1 (fs := mv) hNW
    obtain ⟨nc', nn', g', Q, A, C, K, P, D, b, a1', a2', a3', a4', a5', a6', e1', e2', e3', e4', e5', e6', xs', bm', bz', seen2, wave2, w2, s1, s2, s3, s4, s5, s6, s7, s8, s9, s10, s11⟩ := seek_L (F := F) (base := ms) hF hN h0 hmv hbnear hbed bu2 F 0 1 nn1 g1 _ _ _ _ _ _ _ c1 c2 c3 c4 c5 c6 f1 f2 f3 f4 f5 f6 (va_cpy xs bs 0 0 (N * N)) bm bz seen' wave' 1 (nI w') (Or.inl ⟨rfl, by omega, by omega⟩) (by omega) k3 (by omega) t1 t2 k7 k8 hB2
    have hl2 := LL_le s4
    have h8 := s8.1
    have htri := (s9 [] 0 (by omega) rfl (fun q => q)).1
    have hb0 := b_le s8 0 (by omega)
    have hle := tri_le htri (by omega)
    have x3 := (s10 0 (by omega)).2.2.1
    have x4 := (s10 0 (by omega)).2.2.2.1
    have m3 := (s11 0 (by omega)).2.2.1
    have m4 := (s11 0 (by omega)).2.2.2.1
    have et0 : (0 : Int32).toNatClampNeg = 0 := by decide
    have zz : ∀ y : Nat, y ≤ 1000000000 → (nI y = 0 ↔ y = 0) := fun y hy => by
      rw [show (0 : Int32) = nI 0 from nI_0.symm]
      exact nI_eq (by omega) (by omega)
    have hND' := ND_of h8.2 s3 s4 s10 s11
    have hP8 : ∀ i, i < nc' → P i ≤ 1000000000 ∧ D i ≤ 1000000000 := by
      intro i hi
      obtain ⟨l, hl⟩ := PT_ex (fun i a c => (s8.2.1 i a c).1) (i + 1) i (by omega) hi
      exact tri_le (s9 l i hi hl (fun q => q)).1 (by have := b_le s8 i hi; omega)
    rw [show nI 0 = (0 : Int32) from nI_0] at s1 k1
    have bb : ∀ n, 0 < n → ¬ ((0 : Int32) < 0 ∨ n ≤ 0) := fun n hn q => by
      rcases q with q | q
      · exact absurd q (by decide)
      · omega
    rw [if_pos hr, if_pos hr, copy_ok (by omega), bd1_e, pm_X4_seek, k1, bd15_e, k2, bd10_e, s1, s2, bd18_e, bd11_e, pm_X4_foundAt, et0, x3, x4, m3, m4]
    simp only [if_neg (bb nn' (by omega)), if_neg (bb 8000 (by omega))]
    have fin : ∀ (wn : Int32) (zv : Nat → Int32) (Z : Nat → Nat), (wn = 1 ∨ wn = 2) → ZW mv wn P D Z → ((wn = mv ∧ zv = a3') ∨ (¬ wn = mv ∧ zv = a4')) → (∀ i, i < nc' → zv i = nI (Z i) ∧ Z i ≤ 1000000000) → Z 0 = 0 → ∃ ec' pn' pa' pe' g2 sa' sc' op' be', pm_X4_writePlan F g' mv (N * N) nn' a1' nn' a2' nn' a3' nn' a4' nn' a5' nn' a6' 0 pn pa pn pe 0 wn = some (nI ec', pn', pa', pn', pe', g2) ∧ pm_X7_gather F wn 0 mv 8000 e1' 8000 e2' 8000 e3' 8000 e4' 8000 e5' 8000 e6' 8000 sa 8000 sc 8200 op 8200 be = some (nI ec', sa', sc', op', be') ∧ TR ec' pn' pa' pe' sa' sc' ∧ pn ≤ pn' ∧ g' + 5 * pn ≤ g2 + 5 * pn' ∧ g2 ≤ g' := by
      intro wn zv Z hwn hz hv hzv hZ0
      obtain ⟨ec', pn', pa', pe', g2, sa', sc', op', be', y1, y2, y3⟩ := write_both (F := F) (g := g') (pa := pa) (pe := pe) (sa := sa) (sc := sc) (op := op) (be := be) hF hN hmv hwn hz s8 s9 s10 s11 s3 hl2.2 hzv hZ0 hTR.2.2.1 (by omega)
      refine ⟨ec', pn', pa', pe', g2, sa', sc', op', be', ?_, y2, y3⟩
      have := xwrite_ok hv y1
      rw [show nI 0 = (0 : Int32) from nI_0] at this
      exact this
    have mv0 : ¬ mv = 0 := by rcases hmv with rfl | rfl <;> decide
    have ov0 : ¬ 3 - mv = 0 := by rcases hmv with rfl | rfl <;> decide
    have omv : ¬ 3 - mv = mv := by rcases hmv with rfl | rfl <;> decide
    by_cases hP0 : P 0 = 0
    · obtain ⟨ec', pn', pa', pe', g2, sa', sc', op', be', y1, y2, y3, y4, y5, y6⟩ := fin mv a3' P hmv (Or.inl ⟨rfl, rfl⟩) (Or.inl ⟨rfl, rfl⟩) (fun i hi => ⟨(s10 i hi).2.2.1, (hP8 i hi).1⟩) hP0
      rw [if_pos ((zz _ hle.1).mpr hP0), if_pos ((zz _ hle.1).mpr hP0), bd1_e, bd1_e, if_neg mv0, if_neg mv0, y1, y2, bd6_e, bd5_e, bd25_e]
      exact ⟨_, _, _, _, _, _, _, _, nc', nn', _, _, _, _, _, _, ec', pn', _, _, g2, _, _, _, _, _, _, _, _, _, _, _, _, _, _, _, _, _, rfl, rfl, hND', y3, hB, by omega, by omega⟩
    · rw [if_neg (fun q => hP0 ((zz _ hle.1).mp q)), if_neg (fun q => hP0 ((zz _ hle.1).mp q))]
      by_cases hD0 : D 0 = 0
      · obtain ⟨ec', pn', pa', pe', g2, sa', sc', op', be', y1, y2, y3, y4, y5, y6⟩ := fin (3 - mv) a4' D (other_ok hmv) (Or.inr ⟨rfl, rfl⟩) (Or.inr ⟨omv, rfl⟩) (fun i hi => ⟨(s10 i hi).2.2.2.1, (hP8 i hi).2⟩) hD0
        rw [if_pos ((zz _ hle.2).mpr hD0), if_pos ((zz _ hle.2).mpr hD0), pm_X6_otherSide, bd1_e, bd1_e, bd1_e, if_neg ov0, if_neg ov0, y1, y2, bd6_e, bd5_e, bd25_e]
        exact ⟨_, _, _, _, _, _, _, _, nc', nn', _, _, _, _, _, _, ec', pn', _, _, g2, _, _, _, _, _, _, _, _, _, _, _, _, _, _, _, _, _, rfl, rfl, hND', y3, hB, by omega, by omega⟩
      · rw [if_neg (fun q => hD0 ((zz _ hle.2).mp q)), if_neg (fun q => hD0 ((zz _ hle.2).mp q)), bd1_e, bd1_e, if_pos rfl, if_pos rfl, bd25_e]
        refine ⟨_, _, _, _, _, _, _, _, nc', nn', _, _, _, _, _, _, 0, pn, pa, pe, g', _, _, _, _, _, _, _, _, _, _, _, sa, sc, _, _, _, _, by rw [show nI 0 = (0 : Int32) from nI_0], by rw [show nI 0 = (0 : Int32) from nI_0], hND', ⟨by omega, by omega, hTR.2.2.1, fun i hi => by omega, fun i hi => by omega⟩, hB, by omega, by omega⟩
  · rw [if_neg hr, if_neg hr]
    exact ⟨_, _, _, _, _, _, _, _, nc, nn, _, _, _, _, _, _, ec, pn, _, _, g, _, _, _, _, _, _, _, _, _, _, _, _, _, _, _, _, _, rfl, rfl, hND, hTR, hB, Nat.le_refl _, Nat.le_refl _⟩
