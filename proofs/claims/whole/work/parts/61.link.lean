/-! PURE: the checker's links, on both sides -/
def LK (tc : Nat) (xa bh ne : Nat → Int32) : Prop := (∀ s, s ≤ tc → bh s = -1 ∨ ∃ h, h < tc ∧ bh s = nI h ∧ xa h + 1 = nI s) ∧ ∀ i, i < tc → ne i = -1 ∨ ∃ j, i < j ∧ j < tc ∧ ne i = nI j ∧ xa j = xa i
def LKp (tc i : Nat) (xa bh ne he be : Nat → Int32) : Prop := (∀ s, s ≤ tc → he s = bh s ∧ (bh s = -1 ∨ ∃ h, i ≤ h ∧ h < tc ∧ bh s = nI h ∧ xa h + 1 = nI s)) ∧ ∀ j, i ≤ j → j < tc → be j = ne j ∧ (ne j = -1 ∨ ∃ j', j < j' ∧ j' < tc ∧ ne j = nI j' ∧ xa j' = xa j)
theorem par {tc tn i : Nat} {xa xc ma mc : Nat → Int32} (h : TR tc tn xa xc ma mc) (hi : i < tc) : ∃ s, s ≤ i ∧ xa i + 1 = nI s := by
  rcases h.2.2.2.2 i hi with q | ⟨a, a1, a2⟩
  · exact ⟨0, Nat.zero_le _, by rw [q, nI_0]; decide⟩
  · exact ⟨a + 1, a1, by rw [a2, z_1]⟩
theorem add1_inj {a b : Int32} (h : a + 1 = b + 1) : a = b := by grind
theorem link_L {F tc tn nn : Nat} {xa xc ma mc : Nat → Int32} (h : TR tc tn xa xc ma mc) (hn : tc ≤ nn) (hn2 : nn ≤ 8000) :
    ∀ k i (bh ne he be : Nat → Int32), i ≤ tc → i < k → LKp tc i xa bh ne he be → ∃ bh' ne' he' be', pm_X1_linkEntries_L63 F tn xa (nn + 1) nn k (nI i - 1) bh ne = some (bh', ne') ∧ pm_X7_link_L30 F 8000 ma 8001 8000 k (nI i - 1) he be = some (he', be') ∧ LKp tc 0 xa bh' ne' he' be' := by
  have h8 := h.1
  have htn := h.2.1
  have hl := LL_le h.2.2.1
  intro k
  induction k with
  | zero => intro i bh ne he be h1 h2; omega
  | succ k ih =>
    intro i bh ne he be h1 h2 hK
    rw [pm_X1_linkEntries_L63, pm_X7_link_L30]
    cases i with
    | zero =>
      have e : nI 0 - 1 < 0 := by rw [nI_0]; decide
      rw [if_pos e, if_pos e]
      exact ⟨bh, ne, he, be, rfl, rfl, hK⟩
    | succ j =>
      obtain ⟨s, s1, s2⟩ := par h (show j < tc by omega)
      have e1 : nI j + (-1 : Int32) = nI j - 1 := by grind
      have p1 := (hK.1 s (by omega)).1
      rw [nI_pred, if_neg (nI_neg (show j < 2 ^ 31 by omega)), if_neg (nI_neg (show j < 2 ^ 31 by omega)), z_bd (show j < tn by omega) (by omega), z_bd (show j < 8000 by omega) (by omega), z_cl (show j < 2 ^ 31 by omega), ← (h.2.2.2.1 j (by omega)).1, s2, z_bd (show s < nn + 1 by omega) (by omega), z_bd (show s < 8001 by omega) (by omega), if_neg (z_in (show j < nn by omega) (by omega)), if_neg (z_in (show j < 8000 by omega) (by omega)), z_cl (show s < 2 ^ 31 by omega), e1, p1]
      refine ih j _ _ _ _ (by omega) (by omega) ⟨fun t ht => ?_, fun t ht1 ht2 => ?_⟩
      · by_cases et : t = s
        · subst et
          rw [u_s, u_s]
          exact ⟨rfl, Or.inr ⟨j, Nat.le_refl _, by omega, rfl, s2⟩⟩
        · rw [u_n et, u_n et]
          obtain ⟨q1, q2⟩ := hK.1 t ht
          refine ⟨q1, ?_⟩
          rcases q2 with q2 | ⟨x, x1, x2⟩
          · exact Or.inl q2
          · exact Or.inr ⟨x, by omega, x2⟩
      · by_cases et : t = j
        · subst et
          rw [u_s, u_s]
          refine ⟨rfl, ?_⟩
          rcases (hK.1 s (by omega)).2 with q2 | ⟨x, x1, x2, x3, x4⟩
          · exact Or.inl q2
          · exact Or.inr ⟨x, by omega, x2, x3, add1_inj (x4.trans s2.symm)⟩
        · rw [u_n et, u_n et]
          exact hK.2 t (by omega) ht2
theorem link_L2 {F tc : Nat} (h8 : tc ≤ 8000) : ∀ k i (he : Nat → Int32), i ≤ tc + 1 → tc + 1 < i + k → (∀ s, s < i → he s = -1) → ∃ he', pm_X7_link_L2 F (nI tc) 8001 k (nI i) he = some he' ∧ ∀ s, s ≤ tc → he' s = -1 := by
  intro k
  induction k with
  | zero => intro i he h1 h2; omega
  | succ k ih =>
    intro i he h1 h2 hh
    rw [pm_X7_link_L2]
    by_cases h : i ≤ tc
    · rw [if_neg (nI_nlt h (by omega)), z_bd (show i < 8001 by omega) (by omega), z_cl (show i < 2 ^ 31 by omega), z_1]
      refine ih (i + 1) _ (by omega) (by omega) (fun s hs => ?_)
      by_cases e : s = i
      · subst e; exact u_s
      · rw [u_n e]; exact hh s (by omega)
    · rw [if_pos (nI_lt (show tc < i by omega) (by omega))]
      exact ⟨he, rfl, fun s hs => hh s (by omega)⟩
theorem LL_lt {a b : Nat} (ha : LL a) (hb : LL b) (h : a < b) : 5 * a + 3 ≤ 3 * b := by
  unfold LL at ha
  rcases ha with rfl | rfl | rfl | rfl | rfl | rfl | rfl | rfl | rfl | rfl
  all_goals
    unfold LL at hb
    omega
/-- both sides link alike -/
theorem link_both {F g tc tn nn : Nat} {xa xc ma mc bh ne he be : Nat → Int32} (hF : 9000 < F) (h : TR tc tn xa xc ma mc) (hL : LL nn) (hg : 5 * 8000 ≤ g + 5 * nn) :
    ∃ nn' bh' ne' he' be' g', pm_X1_linkEntries F g (nI tc) tn xa (nn + 1) bh nn ne = some (nn' + 1, bh', nn', ne', g') ∧ pm_X7_link F (nI tc) 8000 ma 8001 he 8000 be = some (he', be') ∧ LL nn' ∧ tc ≤ nn' ∧ g + 5 * nn ≤ g' + 5 * nn' ∧ g' ≤ g ∧ LK tc xa bh' ne' ∧ (∀ s, s ≤ tc → he' s = bh' s) ∧ ∀ i, i < tc → be' i = ne' i := by
  have h8 := h.1
  have htn := h.2.1
  have hl := LL_le h.2.2.1
  have hl2 := LL_le hL
  obtain ⟨he1, m1, m2⟩ := link_L2 (F := F) h8 F 0 he (by omega) (by omega) (fun s hs => by omega)
  rw [show nI 0 = (0 : Int32) from nI_0] at m1
  have main : ∀ nn1 (bh1 ne1 : Nat → Int32), tc ≤ nn1 → nn1 ≤ 8000 → ∃ bh' ne' he' be', bd1 (pm_J7_fill_53178 F (nn1 + 1) bh1 (-1)) (fun v => pm_X1_linkEntries_L63 F tn xa (nn1 + 1) nn1 F (nI tc - 1) v ne1) = some (bh', ne') ∧ pm_X7_link F (nI tc) 8000 ma 8001 he 8000 be = some (he', be') ∧ LK tc xa bh' ne' ∧ (∀ s, s ≤ tc → he' s = bh' s) ∧ ∀ i, i < tc → be' i = ne' i := by
    intro nn1 bh1 ne1 k1 k2
    obtain ⟨bh', ne', he', be', q1, q2, q3⟩ := link_L (F := F) h k1 k2 F tc (fun i => if i < nn1 + 1 then -1 else bh1 i) ne1 he1 be (Nat.le_refl _) (by omega) ⟨fun s hs => by
      have q : (fun i => if i < nn1 + 1 then -1 else bh1 i) s = (-1 : Int32) := if_pos (show s < nn1 + 1 by omega)
      exact ⟨(m2 s hs).trans q.symm, Or.inl q⟩, fun j j1 j2 => by omega⟩
    refine ⟨bh', ne', he', be', ?_, ?_, ⟨fun s hs => ?_, fun i hi => ((q3.2 i (by omega) hi).2)⟩, fun s hs => (q3.1 s hs).1, fun i hi => (q3.2 i (by omega) hi).1⟩
    · rw [fill_ok (by omega) (by omega), bd1_e, q1]
    · rw [pm_X7_link, m1, bd1_e, q2, bd2_e]
    · rcases (q3.1 s hs).2 with q | ⟨x, x1, x2⟩
      · exact Or.inl q
      · exact Or.inr ⟨x, x2⟩
  rw [pm_X1_linkEntries]
  by_cases hc : tc ≤ nn
  · rw [z_le hc (by omega), bd5_e]
    obtain ⟨bh', ne', he', be', q1, q2, q3, q4, q5⟩ := main nn bh ne hc hl2.2
    refine ⟨nn, bh', ne', he', be', g, ?_, q2, hL, hc, Nat.le_refl _, Nat.le_refl _, q3, q4, q5⟩
    rw [fill_ok (by omega) (by omega), bd1_e] at q1
    rw [fill_ok (by omega) (by omega), bd1_e, q1, bd2_e]
  · have hlt := LL_lt hL h.2.2.1 (by omega)
    obtain ⟨bh', ne', he', be', q1, q2, q3, q4, q5⟩ := main tn (fun _ => 0) (fun _ => 0) htn hl.2
    rw [z_gt (show nn < tc by omega) (by omega), z_1, z_cl (show tn < 2 ^ 31 by omega), z_cl (show tn + 1 < 2 ^ 31 by omega), if_neg (by
      rintro (x | x)
      · exact nI_neg (by omega) x
      · omega), gs_e (by omega), bd1_e, if_neg (by
      rintro (x | x)
      · exact nI_neg (by omega) x
      · omega), gs_e (by omega), bd1_e, bd5_e]
    refine ⟨tn, bh', ne', he', be', g - (tn + 1) - (tn + 1 + 1), ?_, q2, h.2.2.1, htn, ?_, ?_, q3, q4, q5⟩
    · rw [fill_ok (by omega) (by omega), bd1_e] at q1
      rw [fill_ok (by omega) (by omega), bd1_e, q1, bd2_e]
    · omega
    · omega
