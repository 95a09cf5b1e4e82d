/-! PURE: the law's loop: its invariant, the cases, the step (written by law2.py) -/
abbrev TF : Type := Int32 → Int32 → Int32 → Int32 → Nat → (Nat → Int32) → Nat → (Nat → Int32) → Nat → (Nat → Int32) → Nat → (Nat → Int32) → Nat → (Nat → Int32) → Int32 → Nat → (Nat → Int32) → Nat → (Nat → Int32) → Nat → (Nat → Int32) → Nat → (Nat → Int32) → Nat → (Nat → Int32) → Int32 → Int32 → Int32 → Int32 → Int32 → Int32 → Int32 → Int32 → Int32 → Int32 → Nat → (Nat → Int32) → Nat → (Nat → Int32) → Nat → (Nat → Int32) → Nat → (Nat → Int32) → Nat → (Nat → Int32) → Nat → (Nat → Int32) → Int32 → Nat → (Nat → Int32) → Nat → (Nat → Int32) → Int32 → Nat → (Nat → Int32) → Nat → (Nat → Int32) → Int32 → Int32 → Nat → (Nat → Int32) → Nat → (Nat → Int32) → Nat → (Nat → Int32) → Int32 → Int32 → Int32 → Int32 → Int32 → Int32 → Int32 → Int32 → Int32 → Int32 → Int32 → Int32 → Int32 → Int32 → Int32 → Int32 → Int32 → Int32 → Int32 → Nat → (Nat → Int32) → Nat → (Nat → Int32) → Nat → (Nat → Int32) → Nat → (Nat → Int32) → Nat → (Nat → Int32) → Nat → (Nat → Int32) → Nat → (Nat → Int32) → Nat → (Nat → Int32) → Nat → (Nat → Int32) → Nat → (Nat → Int32) → Nat → (Nat → Int32) → Nat → (Nat → Int32) → Nat → (Nat → Int32) → Nat → (Nat → Int32) → Nat → (Nat → Int32) → Nat → (Nat → Int32) → Nat → (Nat → Int32) → Nat → (Nat → Int32) → Nat → (Nat → Int32) → Nat → Option Int32
def IV (N pc nc nn ec pn tc tn nx g : Nat) (mv : Int32) (xs ms near ed bnear bed xp mp a1 a2 a3 a4 a5 a6 b1 b2 b3 b4 b5 b6 pa pe sa sc xa xc ma mc : Nat → Int32) : Prop := 0 < N ∧ N < 12 ∧ (mv = 1 ∨ mv = 2) ∧ (∀ c, c < N * N → ∀ k, k < 6 → near (6 * c + k) = nbI N c k) ∧ (∀ c, c < N * N → ed c = edI N c) ∧ (∀ c, c < N * N → ∀ k, k < 6 → bnear (6 * c + k) = nbI N c k) ∧ (∀ c, c < N * N → bed c = edI N c) ∧ BR N xs ms ∧ PL N pc xs xp mp ∧ ND nc nn a1 a2 a3 a4 a5 a6 b1 b2 b3 b4 b5 b6 ∧ TR ec pn pa pe sa sc ∧ TR tc tn xa xc ma mc ∧ LL nx ∧ 13 * 8000 + 3 * (5 * 8000) ≤ g + 13 * nn + 5 * pn + 5 * tn + 5 * nx
def AL (f : TF) (i : Int32) : Prop := ∀ (N pc nc nn ec pn tc tn nx g : Nat) (mv : Int32) (xs ms near ed bnear bed xp mp a1 a2 a3 a4 a5 a6 b1 b2 b3 b4 b5 b6 pa pe sa sc xa xc ma mc : Nat → Int32) (w1 w2 w3 w4 w5 w6 w7 sf smv cs cm bud wins wv y1 y2 y3 y4 y5 y6 y7 y8 fst : Int32) (m z bs bm bz bh ne seen wave op ob he be wave2 : Nat → Int32), IV N pc nc nn ec pn tc tn nx g mv xs ms near ed bnear bed xp mp a1 a2 a3 a4 a5 a6 b1 b2 b3 b4 b5 b6 pa pe sa sc xa xc ma mc → f i (nI pc) mv (nI N) (N * N) xs (6 * (N * N)) near (N * N) ed (N * N) m (N * N) z (nI N) (N * N) bs (6 * (N * N)) bnear (N * N) bed (N * N) bm (N * N) bz w1 w2 w3 w4 w5 w6 w7 sf smv (nI nc) nn a1 nn a2 nn a3 nn a4 nn a5 nn a6 (nI ec) pn pa pn pe (nI tc) tn xa tn xc cs cm (nx + 1) bh nx ne (N * N) xp (nI N) (nI (N * N)) mv (nI pc) (nI nc) bud wins (nI ec) (nI tc) wv y1 y2 y3 y4 y5 y6 y7 y8 fst 121 ms 121 mp 8000 b1 8000 b2 8000 b3 8000 b4 8000 b5 8000 b6 8000 sa 8000 sc 8000 ma 8000 mc 121 seen 121 wave 8200 op 8200 ob 8001 he 8000 be 122 wave2 g = some 1
theorem nI_ex (x : Int32) : ∃ w, x = nI w := ⟨x.toBitVec.toNat, Int32.toBitVec_inj.mp (by
  unfold nI
  first
  | (rw [Int32.toBitVec_ofNat', BitVec.ofNat_toNat, BitVec.setWidth_eq]; done)
  | (simp; done))⟩
theorem PL_0 {N : Nat} {xs xp mp : Nat → Int32} : PL N 0 xs xp mp := ⟨by have := cnt_le (em xs) (N * N); omega, fun i hi => by omega⟩
set_option maxRecDepth 100000 in
theorem AL_c0 {F L : Nat} {S : Nat → Int32} {f : TF} {i : Int32} (hF : 9000 < F) (h1 : ¬ (i + (1 : Int32) < 0 ∨ L ≤ (i + (1 : Int32)).toNatClampNeg)) (h2 : ¬ (i + (2 : Int32) < 0 ∨ L ≤ (i + (2 : Int32)).toNatClampNeg)) (h3 : ¬ (i + (3 : Int32) < 0 ∨ L ≤ (i + (3 : Int32)).toNatClampNeg)) (hr : AL f (i + 4)) : AL (law_c0 F L S f) i := by
  intro N pc nc nn ec pn tc tn nx g mv xs ms near ed bnear bed xp mp a1 a2 a3 a4 a5 a6 b1 b2 b3 b4 b5 b6 pa pe sa sc xa xc ma mc w1 w2 w3 w4 w5 w6 w7 sf smv cs cm bud wins wv y1 y2 y3 y4 y5 y6 y7 y8 fst m z bs bm bz bh ne seen wave op ob he be wave2 h
  obtain ⟨h0, hN, hmv, hnear, hed, hbnear, hbed, hB, hP, hND, hPl, hTr, hLx, hg⟩ := id h
  have l1 := LL_le hND.2.2.1
  have l2 := LL_le hPl.2.2.1
  have l3 := LL_le hTr.2.2.1
  have l4 := LL_le hLx
  obtain ⟨r, pc1, xs1, ms1, q1, q2, q3, q4⟩ := set_both (F := F) (nI pc) (S (i + 1).toNatClampNeg) (S (i + 2).toNatClampNeg) (S (i + 3).toNatClampNeg) hN hB
  have h5 : ∃ p, pc1 = nI p ∧ PL N p xs1 xp mp := by
    rcases q4 with ⟨e1, e2⟩ | e1
    · exact ⟨pc, e1, by rw [e2]; exact hP⟩
    · exact ⟨0, by rw [e1, nI_0], PL_0⟩
  obtain ⟨p, rfl, hP1⟩ := h5
  rw [law_c0, if_neg h1, if_neg h2, if_neg h3, q1, bd3_e, q2, bd3_e, if_pos rfl]
  exact hr _ _ _ _ _ _ _ _ _ _ _ _ _ _ _ _ _ _ _ _ _ _ _ _ _ _ _ _ _ _ _ _ _ _ _ _ _ _ _ _ _ _ _ _ _ _ _ _ _ _ _ _ _ _ _ _ _ _ _ _ _ _ _ _ _ _ _ _ _ _ _ _ _ _ _ _ ⟨h0, hN, hmv, hnear, hed, hbnear, hbed, q3, hP1, hND, hPl, hTr, hLx, hg⟩
set_option maxRecDepth 100000 in
theorem AL_c1 {F L : Nat} {S : Nat → Int32} {f : TF} {i : Int32} (hF : 9000 < F) (h1 : ¬ (i + (1 : Int32) < 0 ∨ L ≤ (i + (1 : Int32)).toNatClampNeg)) (hr : AL f (i + 4)) : AL (law_c1 F L S f) i := by
  intro N pc nc nn ec pn tc tn nx g mv xs ms near ed bnear bed xp mp a1 a2 a3 a4 a5 a6 b1 b2 b3 b4 b5 b6 pa pe sa sc xa xc ma mc w1 w2 w3 w4 w5 w6 w7 sf smv cs cm bud wins wv y1 y2 y3 y4 y5 y6 y7 y8 fst m z bs bm bz bh ne seen wave op ob he be wave2 h
  obtain ⟨h0, hN, hmv, hnear, hed, hbnear, hbed, hB, hP, hND, hPl, hTr, hLx, hg⟩ := id h
  have l1 := LL_le hND.2.2.1
  have l2 := LL_le hPl.2.2.1
  have l3 := LL_le hTr.2.2.1
  have l4 := LL_le hLx
  obtain ⟨r, pc1, mv1, q1, q2, q3, q4⟩ := turn_both (F := F) (nI pc) mv (S (i + 1).toNatClampNeg) hmv
  have h5 : ∃ p, pc1 = nI p ∧ PL N p xs xp mp := by
    rcases q4 with e1 | e1
    · exact ⟨pc, e1, hP⟩
    · exact ⟨0, by rw [e1, nI_0], PL_0⟩
  obtain ⟨p, rfl, hP1⟩ := h5
  rw [law_c1, if_neg h1, q1, bd3_e, q2, bd3_e, if_pos rfl]
  exact hr _ _ _ _ _ _ _ _ _ _ _ _ _ _ _ _ _ _ _ _ _ _ _ _ _ _ _ _ _ _ _ _ _ _ _ _ _ _ _ _ _ _ _ _ _ _ _ _ _ _ _ _ _ _ _ _ _ _ _ _ _ _ _ _ _ _ _ _ _ _ _ _ _ _ _ _ ⟨h0, hN, q3, hnear, hed, hbnear, hbed, hB, hP1, hND, hPl, hTr, hLx, hg⟩
set_option maxRecDepth 100000 in
theorem AL_c2 {F L : Nat} {S : Nat → Int32} {f : TF} {i : Int32} (hF : 9000 < F) (h1 : ¬ (i + (1 : Int32) < 0 ∨ L ≤ (i + (1 : Int32)).toNatClampNeg)) (h2 : ¬ (i + (2 : Int32) < 0 ∨ L ≤ (i + (2 : Int32)).toNatClampNeg)) (hr : AL f (i + 4)) : AL (law_c2 F L S f) i := by
  intro N pc nc nn ec pn tc tn nx g mv xs ms near ed bnear bed xp mp a1 a2 a3 a4 a5 a6 b1 b2 b3 b4 b5 b6 pa pe sa sc xa xc ma mc w1 w2 w3 w4 w5 w6 w7 sf smv cs cm bud wins wv y1 y2 y3 y4 y5 y6 y7 y8 fst m z bs bm bz bh ne seen wave op ob he be wave2 h
  obtain ⟨h0, hN, hmv, hnear, hed, hbnear, hbed, hB, hP, hND, hPl, hTr, hLx, hg⟩ := id h
  have l1 := LL_le hND.2.2.1
  have l2 := LL_le hPl.2.2.1
  have l3 := LL_le hTr.2.2.1
  have l4 := LL_le hLx
  obtain ⟨w, rfl⟩ := nI_ex wv
  obtain ⟨r, pc1, mv1, xs1, m1, z1, xp1, w1_, ms1, mp1, seen1, wave1, q1, q2, q3, q4, q5⟩ := play_both (F := F) (w := w) (m := m) (z := z) (seen := seen) (wave := wave) (S (i + 1).toNatClampNeg) (S (i + 2).toNatClampNeg) (by omega) hN h0 hmv hnear hed hB hP
  rw [law_c2, if_neg h1, if_neg h2, q1, bd7_e, q2, bd8_e, if_pos rfl]
  exact hr _ _ _ _ _ _ _ _ _ _ _ _ _ _ _ _ _ _ _ _ _ _ _ _ _ _ _ _ _ _ _ _ _ _ _ _ _ _ _ _ _ _ _ _ _ _ _ _ _ _ _ _ _ _ _ _ _ _ _ _ _ _ _ _ _ _ _ _ _ _ _ _ _ _ _ _ ⟨h0, hN, q5, hnear, hed, hbnear, hbed, q3, q4, hND, hPl, hTr, hLx, hg⟩
set_option maxRecDepth 100000 in
theorem AL_c3 {F L : Nat} {S : Nat → Int32} {f : TF} {i : Int32} (hF : 9000 < F)  (hr : AL f (i + 4)) : AL (law_c3 F L S f) i := by
  intro N pc nc nn ec pn tc tn nx g mv xs ms near ed bnear bed xp mp a1 a2 a3 a4 a5 a6 b1 b2 b3 b4 b5 b6 pa pe sa sc xa xc ma mc w1 w2 w3 w4 w5 w6 w7 sf smv cs cm bud wins wv y1 y2 y3 y4 y5 y6 y7 y8 fst m z bs bm bz bh ne seen wave op ob he be wave2 h
  obtain ⟨h0, hN, hmv, hnear, hed, hbnear, hbed, hB, hP, hND, hPl, hTr, hLx, hg⟩ := id h
  have l1 := LL_le hND.2.2.1
  have l2 := LL_le hPl.2.2.1
  have l3 := LL_le hTr.2.2.1
  have l4 := LL_le hLx
  obtain ⟨r, pc1, mv1, xs1, ms1, q1, q2, q3, q4, q5⟩ := undo_both (F := F) hN hmv hB hP
  rw [law_c3, q1, bd4_e, q2, bd4_e, if_pos rfl]
  exact hr _ _ _ _ _ _ _ _ _ _ _ _ _ _ _ _ _ _ _ _ _ _ _ _ _ _ _ _ _ _ _ _ _ _ _ _ _ _ _ _ _ _ _ _ _ _ _ _ _ _ _ _ _ _ _ _ _ _ _ _ _ _ _ _ _ _ _ _ _ _ _ _ _ _ _ _ ⟨h0, hN, q5, hnear, hed, hbnear, hbed, q3, q4, hND, hPl, hTr, hLx, hg⟩
set_option maxRecDepth 100000 in
theorem AL_c4 {F L : Nat} {S : Nat → Int32} {f : TF} {i : Int32} (hF : 9000 < F) (h1 : ¬ (i + (1 : Int32) < 0 ∨ L ≤ (i + (1 : Int32)).toNatClampNeg)) (h2 : ¬ (i + (2 : Int32) < 0 ∨ L ≤ (i + (2 : Int32)).toNatClampNeg)) (hr : AL f (i + 4)) : AL (law_c4 F L S f) i := by
  intro N pc nc nn ec pn tc tn nx g mv xs ms near ed bnear bed xp mp a1 a2 a3 a4 a5 a6 b1 b2 b3 b4 b5 b6 pa pe sa sc xa xc ma mc w1 w2 w3 w4 w5 w6 w7 sf smv cs cm bud wins wv y1 y2 y3 y4 y5 y6 y7 y8 fst m z bs bm bz bh ne seen wave op ob he be wave2 h
  obtain ⟨h0, hN, hmv, hnear, hed, hbnear, hbed, hB, hP, hND, hPl, hTr, hLx, hg⟩ := id h
  have l1 := LL_le hND.2.2.1
  have l2 := LL_le hPl.2.2.1
  have l3 := LL_le hTr.2.2.1
  have l4 := LL_le hLx
  obtain ⟨r, q1, q2⟩ := cell_both (F := F) (S (i + 1).toNatClampNeg) (S (i + 2).toNatClampNeg) hN hB
  rw [law_c4, if_neg h1, if_neg h2, q1, bd1_e, q2, bd1_e, if_pos rfl]
  exact hr _ _ _ _ _ _ _ _ _ _ _ _ _ _ _ _ _ _ _ _ _ _ _ _ _ _ _ _ _ _ _ _ _ _ _ _ _ _ _ _ _ _ _ _ _ _ _ _ _ _ _ _ _ _ _ _ _ _ _ _ _ _ _ _ _ _ _ _ _ _ _ _ _ _ _ _ ⟨h0, hN, hmv, hnear, hed, hbnear, hbed, hB, hP, hND, hPl, hTr, hLx, hg⟩
set_option maxRecDepth 100000 in
theorem AL_c5 {F L : Nat} {S : Nat → Int32} {f : TF} {i : Int32} (hF : 9000 < F) (h1 : ¬ (i + (1 : Int32) < 0 ∨ L ≤ (i + (1 : Int32)).toNatClampNeg)) (h2 : ¬ (i + (2 : Int32) < 0 ∨ L ≤ (i + (2 : Int32)).toNatClampNeg)) (hr : AL f (i + 4)) : AL (law_c5 F L S f) i := by
  intro N pc nc nn ec pn tc tn nx g mv xs ms near ed bnear bed xp mp a1 a2 a3 a4 a5 a6 b1 b2 b3 b4 b5 b6 pa pe sa sc xa xc ma mc w1 w2 w3 w4 w5 w6 w7 sf smv cs cm bud wins wv y1 y2 y3 y4 y5 y6 y7 y8 fst m z bs bm bz bh ne seen wave op ob he be wave2 h
  obtain ⟨h0, hN, hmv, hnear, hed, hbnear, hbed, hB, hP, hND, hPl, hTr, hLx, hg⟩ := id h
  have l1 := LL_le hND.2.2.1
  have l2 := LL_le hPl.2.2.1
  have l3 := LL_le hTr.2.2.1
  have l4 := LL_le hLx
  obtain ⟨w, rfl⟩ := nI_ex wv
  obtain ⟨r, m1, z1, w1_, seen1, wave1, q1, q2⟩ := chain_both (F := F) (w := w) (m := m) (z := z) (seen := seen) (wave := wave) (S (i + 1).toNatClampNeg) (S (i + 2).toNatClampNeg) (by omega) hN hnear hB
  rw [law_c5, if_neg h1, if_neg h2, q1, bd3_e, q2, bd4_e, if_pos rfl]
  exact hr _ _ _ _ _ _ _ _ _ _ _ _ _ _ _ _ _ _ _ _ _ _ _ _ _ _ _ _ _ _ _ _ _ _ _ _ _ _ _ _ _ _ _ _ _ _ _ _ _ _ _ _ _ _ _ _ _ _ _ _ _ _ _ _ _ _ _ _ _ _ _ _ _ _ _ _ ⟨h0, hN, hmv, hnear, hed, hbnear, hbed, hB, hP, hND, hPl, hTr, hLx, hg⟩
set_option maxRecDepth 100000 in
theorem AL_c6 {F L : Nat} {S : Nat → Int32} {f : TF} {i : Int32} (hF : 9000 < F) (h1 : ¬ (i + (1 : Int32) < 0 ∨ L ≤ (i + (1 : Int32)).toNatClampNeg)) (hr : AL f (i + 4)) : AL (law_c6 F L S f) i := by
  intro N pc nc nn ec pn tc tn nx g mv xs ms near ed bnear bed xp mp a1 a2 a3 a4 a5 a6 b1 b2 b3 b4 b5 b6 pa pe sa sc xa xc ma mc w1 w2 w3 w4 w5 w6 w7 sf smv cs cm bud wins wv y1 y2 y3 y4 y5 y6 y7 y8 fst m z bs bm bz bh ne seen wave op ob he be wave2 h
  obtain ⟨h0, hN, hmv, hnear, hed, hbnear, hbed, hB, hP, hND, hPl, hTr, hLx, hg⟩ := id h
  have l1 := LL_le hND.2.2.1
  have l2 := LL_le hPl.2.2.1
  have l3 := LL_le hTr.2.2.1
  have l4 := LL_le hLx
  obtain ⟨w, rfl⟩ := nI_ex wv
  obtain ⟨r, m1, z1, w1_, seen1, wave1, q1, q2⟩ := about_both (F := F) (w := w) (m := m) (z := z) (seen := seen) (wave := wave) (nI pc) mv (nI nc) (nI ec) (nI tc) (S (i + 1).toNatClampNeg) (by omega) hN h0 hnear hed hB
  rw [law_c6, if_neg h1, q1, bd3_e, q2, bd4_e, if_pos rfl]
  exact hr _ _ _ _ _ _ _ _ _ _ _ _ _ _ _ _ _ _ _ _ _ _ _ _ _ _ _ _ _ _ _ _ _ _ _ _ _ _ _ _ _ _ _ _ _ _ _ _ _ _ _ _ _ _ _ _ _ _ _ _ _ _ _ _ _ _ _ _ _ _ _ _ _ _ _ _ ⟨h0, hN, hmv, hnear, hed, hbnear, hbed, hB, hP, hND, hPl, hTr, hLx, hg⟩
set_option maxRecDepth 100000 in
theorem AL_c7 {F L : Nat} {S : Nat → Int32} {f : TF} {i : Int32} (hF : 9000 < F)  (hr : AL f (i + 4)) : AL (law_c7 F L S f) i := by
  intro N pc nc nn ec pn tc tn nx g mv xs ms near ed bnear bed xp mp a1 a2 a3 a4 a5 a6 b1 b2 b3 b4 b5 b6 pa pe sa sc xa xc ma mc w1 w2 w3 w4 w5 w6 w7 sf smv cs cm bud wins wv y1 y2 y3 y4 y5 y6 y7 y8 fst m z bs bm bz bh ne seen wave op ob he be wave2 h
  obtain ⟨h0, hN, hmv, hnear, hed, hbnear, hbed, hB, hP, hND, hPl, hTr, hLx, hg⟩ := id h
  have l1 := LL_le hND.2.2.1
  have l2 := LL_le hPl.2.2.1
  have l3 := LL_le hTr.2.2.1
  have l4 := LL_le hLx
  obtain ⟨r, w1_, w2_, w3_, w4_, w5_, w6_, w7_, y1_, y2_, y3_, y4_, y5_, y6_, y7_, y8_, q1, q2⟩ := walk_both (F := F) w1 w2 w3 w4 w5 w6 w7 y1 y2 y3 y4 y5 y6 y7 y8 (by omega) hN h0 hB
  rw [law_c7, q1, bd8_e, q2, bd9_e, if_pos rfl]
  exact hr _ _ _ _ _ _ _ _ _ _ _ _ _ _ _ _ _ _ _ _ _ _ _ _ _ _ _ _ _ _ _ _ _ _ _ _ _ _ _ _ _ _ _ _ _ _ _ _ _ _ _ _ _ _ _ _ _ _ _ _ _ _ _ _ _ _ _ _ _ _ _ _ _ _ _ _ ⟨h0, hN, hmv, hnear, hed, hbnear, hbed, hB, hP, hND, hPl, hTr, hLx, hg⟩
set_option maxRecDepth 100000 in
theorem AL_c8 {F L : Nat} {S : Nat → Int32} {f : TF} {i : Int32} (hF : 9000 < F) (h1 : ¬ (i + (1 : Int32) < 0 ∨ L ≤ (i + (1 : Int32)).toNatClampNeg)) (h2 : ¬ (i + (2 : Int32) < 0 ∨ L ≤ (i + (2 : Int32)).toNatClampNeg)) (hr : AL f (i + 4)) : AL (law_c8 F L S f) i := by
  intro N pc nc nn ec pn tc tn nx g mv xs ms near ed bnear bed xp mp a1 a2 a3 a4 a5 a6 b1 b2 b3 b4 b5 b6 pa pe sa sc xa xc ma mc w1 w2 w3 w4 w5 w6 w7 sf smv cs cm bud wins wv y1 y2 y3 y4 y5 y6 y7 y8 fst m z bs bm bz bh ne seen wave op ob he be wave2 h
  obtain ⟨h0, hN, hmv, hnear, hed, hbnear, hbed, hB, hP, hND, hPl, hTr, hLx, hg⟩ := id h
  have l1 := LL_le hND.2.2.1
  have l2 := LL_le hPl.2.2.1
  have l3 := LL_le hTr.2.2.1
  have l4 := LL_le hLx
  obtain ⟨r, w1_, w2_, w3_, w4_, w5_, w6_, w7_, y1_, y2_, y3_, y4_, y5_, y6_, y7_, y8_, q1, q2⟩ := step_both (F := F) w1 w2 w3 w4 w5 w6 w7 y1 y2 y3 y4 y5 y6 y7 y8 (S (i + 1).toNatClampNeg) (S (i + 2).toNatClampNeg) (by omega) hN h0 hB
  rw [law_c8, if_neg h1, if_neg h2, q1, bd8_e, q2, bd9_e, if_pos rfl]
  exact hr _ _ _ _ _ _ _ _ _ _ _ _ _ _ _ _ _ _ _ _ _ _ _ _ _ _ _ _ _ _ _ _ _ _ _ _ _ _ _ _ _ _ _ _ _ _ _ _ _ _ _ _ _ _ _ _ _ _ _ _ _ _ _ _ _ _ _ _ _ _ _ _ _ _ _ _ ⟨h0, hN, hmv, hnear, hed, hbnear, hbed, hB, hP, hND, hPl, hTr, hLx, hg⟩
set_option maxRecDepth 100000 in
theorem AL_c9 {F L : Nat} {S : Nat → Int32} {f : TF} {i : Int32} (hF : 9000 < F) (h1 : ¬ (i + (1 : Int32) < 0 ∨ L ≤ (i + (1 : Int32)).toNatClampNeg)) (hr : AL f (i + 4)) : AL (law_c9 F L S f) i := by
  intro N pc nc nn ec pn tc tn nx g mv xs ms near ed bnear bed xp mp a1 a2 a3 a4 a5 a6 b1 b2 b3 b4 b5 b6 pa pe sa sc xa xc ma mc w1 w2 w3 w4 w5 w6 w7 sf smv cs cm bud wins wv y1 y2 y3 y4 y5 y6 y7 y8 fst m z bs bm bz bh ne seen wave op ob he be wave2 h
  obtain ⟨h0, hN, hmv, hnear, hed, hbnear, hbed, hB, hP, hND, hPl, hTr, hLx, hg⟩ := id h
  have l1 := LL_le hND.2.2.1
  have l2 := LL_le hPl.2.2.1
  have l3 := LL_le hTr.2.2.1
  have l4 := LL_le hLx
  obtain ⟨r, m1, z1, bs1, bm1, bz1, sf1, smv1, nc1, nn1, a1_, a2_, a3_, a4_, a5_, a6_, ec1, pn1, pa1, pe1, g1, bud1, wins1, wv1, fst1, ms1, b1_, b2_, b3_, b4_, b5_, b6_, sa1, sc1, seen1, wave1, op1, ob1, q1, q2, q3, q4, q5, q6, q7⟩ := search_both (F := F) (m := m) (z := z) (bs := bs) (bm := bm) (bz := bz) (seen := seen) (wave := wave) (op := op) (be := ob) mv sf smv bud wins wv fst (S (i + 1).toNatClampNeg) hF hN h0 hmv hnear hed hbnear hbed hB hND hPl (by omega : 13 * 8000 + 5 * 8000 ≤ g + 13 * nn + 5 * pn)
  rw [law_c9, if_neg h1, q1, bd27_e, q2, bd20_e, if_pos rfl]
  exact hr _ _ _ _ _ _ _ _ _ _ _ _ _ _ _ _ _ _ _ _ _ _ _ _ _ _ _ _ _ _ _ _ _ _ _ _ _ _ _ _ _ _ _ _ _ _ _ _ _ _ _ _ _ _ _ _ _ _ _ _ _ _ _ _ _ _ _ _ _ _ _ _ _ _ _ _ ⟨h0, hN, hmv, hnear, hed, hbnear, hbed, q5, hP, q3, q4, hTr, hLx, by omega⟩
set_option maxRecDepth 100000 in
theorem AL_c10 {F L : Nat} {S : Nat → Int32} {f : TF} {i : Int32} (hF : 9000 < F) (h1 : ¬ (i + (1 : Int32) < 0 ∨ L ≤ (i + (1 : Int32)).toNatClampNeg)) (h2 : ¬ (i + (2 : Int32) < 0 ∨ L ≤ (i + (2 : Int32)).toNatClampNeg)) (hr : AL f (i + 4)) : AL (law_c10 F L S f) i := by
  intro N pc nc nn ec pn tc tn nx g mv xs ms near ed bnear bed xp mp a1 a2 a3 a4 a5 a6 b1 b2 b3 b4 b5 b6 pa pe sa sc xa xc ma mc w1 w2 w3 w4 w5 w6 w7 sf smv cs cm bud wins wv y1 y2 y3 y4 y5 y6 y7 y8 fst m z bs bm bz bh ne seen wave op ob he be wave2 h
  obtain ⟨h0, hN, hmv, hnear, hed, hbnear, hbed, hB, hP, hND, hPl, hTr, hLx, hg⟩ := id h
  have l1 := LL_le hND.2.2.1
  have l2 := LL_le hPl.2.2.1
  have l3 := LL_le hTr.2.2.1
  have l4 := LL_le hLx
  obtain ⟨r, q1, q2⟩ := node_both (F := F) (S (i + 1).toNatClampNeg) (S (i + 2).toNatClampNeg) hND
  rw [law_c10, if_neg h1, if_neg h2, q1, bd1_e, q2, bd1_e, if_pos rfl]
  exact hr _ _ _ _ _ _ _ _ _ _ _ _ _ _ _ _ _ _ _ _ _ _ _ _ _ _ _ _ _ _ _ _ _ _ _ _ _ _ _ _ _ _ _ _ _ _ _ _ _ _ _ _ _ _ _ _ _ _ _ _ _ _ _ _ _ _ _ _ _ _ _ _ _ _ _ _ ⟨h0, hN, hmv, hnear, hed, hbnear, hbed, hB, hP, hND, hPl, hTr, hLx, hg⟩
set_option maxRecDepth 100000 in
theorem AL_c11 {F L : Nat} {S : Nat → Int32} {f : TF} {i : Int32} (hF : 9000 < F) (h1 : ¬ (i + (1 : Int32) < 0 ∨ L ≤ (i + (1 : Int32)).toNatClampNeg)) (h2 : ¬ (i + (2 : Int32) < 0 ∨ L ≤ (i + (2 : Int32)).toNatClampNeg)) (hr : AL f (i + 4)) : AL (law_c11 F L S f) i := by
  intro N pc nc nn ec pn tc tn nx g mv xs ms near ed bnear bed xp mp a1 a2 a3 a4 a5 a6 b1 b2 b3 b4 b5 b6 pa pe sa sc xa xc ma mc w1 w2 w3 w4 w5 w6 w7 sf smv cs cm bud wins wv y1 y2 y3 y4 y5 y6 y7 y8 fst m z bs bm bz bh ne seen wave op ob he be wave2 h
  obtain ⟨h0, hN, hmv, hnear, hed, hbnear, hbed, hB, hP, hND, hPl, hTr, hLx, hg⟩ := id h
  have l1 := LL_le hND.2.2.1
  have l2 := LL_le hPl.2.2.1
  have l3 := LL_le hTr.2.2.1
  have l4 := LL_le hLx
  obtain ⟨r, q1, q2⟩ := strategy_both (F := F) (S (i + 1).toNatClampNeg) (S (i + 2).toNatClampNeg) hPl
  rw [law_c11, if_neg h1, if_neg h2, q1, bd1_e, q2, bd1_e, if_pos rfl]
  exact hr _ _ _ _ _ _ _ _ _ _ _ _ _ _ _ _ _ _ _ _ _ _ _ _ _ _ _ _ _ _ _ _ _ _ _ _ _ _ _ _ _ _ _ _ _ _ _ _ _ _ _ _ _ _ _ _ _ _ _ _ _ _ _ _ _ _ _ _ _ _ _ _ _ _ _ _ ⟨h0, hN, hmv, hnear, hed, hbnear, hbed, hB, hP, hND, hPl, hTr, hLx, hg⟩
set_option maxRecDepth 100000 in
theorem AL_c12 {F L : Nat} {S : Nat → Int32} {f : TF} {i : Int32} (hF : 9000 < F)  (hr : AL f (i + 4)) : AL (law_c12 F L S f) i := by
  intro N pc nc nn ec pn tc tn nx g mv xs ms near ed bnear bed xp mp a1 a2 a3 a4 a5 a6 b1 b2 b3 b4 b5 b6 pa pe sa sc xa xc ma mc w1 w2 w3 w4 w5 w6 w7 sf smv cs cm bud wins wv y1 y2 y3 y4 y5 y6 y7 y8 fst m z bs bm bz bh ne seen wave op ob he be wave2 h
  obtain ⟨h0, hN, hmv, hnear, hed, hbnear, hbed, hB, hP, hND, hPl, hTr, hLx, hg⟩ := id h
  have l1 := LL_le hND.2.2.1
  have l2 := LL_le hPl.2.2.1
  have l3 := LL_le hTr.2.2.1
  have l4 := LL_le hLx
  obtain ⟨n1, ah1, ce1, g1, q1, q3, q4, q5, q6, q7, q8⟩ := xload_ok (F := F) (pc := ec) (pn := pn) (n := tn) (g := g) (pa := pa) (pe := pe) (ah := xa) (ce := xc) (by omega) hPl.1 hPl.2.1 (by omega) hTr.2.2.1 (by omega)
  obtain ⟨ah2, ce2, q2, q9⟩ := mload_ok (F := F) (pc := ec) (pa := sa) (pe := sc) (ah := ma) (ce := mc) (by omega) hPl.1
  have hT : TR ec n1 ah1 ce1 ah2 ce2 := ⟨hPl.1, q5, q3, fun j hj => by
    rw [(q6 j hj).1, (q6 j hj).2, (q9 j hj).1, (q9 j hj).2]
    exact hPl.2.2.2.1 j hj, fun j hj => by
    rw [(q6 j hj).1]
    exact hPl.2.2.2.2 j hj⟩
  rw [law_c12, q1, bd7_e, q2, bd4_e, if_pos rfl]
  exact hr _ _ _ _ _ _ _ _ _ _ _ _ _ _ _ _ _ _ _ _ _ _ _ _ _ _ _ _ _ _ _ _ _ _ _ _ _ _ _ _ _ _ _ _ _ _ _ _ _ _ _ _ _ _ _ _ _ _ _ _ _ _ _ _ _ _ _ _ _ _ _ _ _ _ _ _ ⟨h0, hN, hmv, hnear, hed, hbnear, hbed, hB, hP, hND, hPl, hT, hLx, by omega⟩
set_option maxRecDepth 100000 in
theorem AL_c13 {F L : Nat} {S : Nat → Int32} {f : TF} {i : Int32} (hF : 9000 < F) (h1 : ¬ (i + (1 : Int32) < 0 ∨ L ≤ (i + (1 : Int32)).toNatClampNeg)) (h2 : ¬ (i + (2 : Int32) < 0 ∨ L ≤ (i + (2 : Int32)).toNatClampNeg)) (hr : AL f (i + 4)) : AL (law_c13 F L S f) i := by
  intro N pc nc nn ec pn tc tn nx g mv xs ms near ed bnear bed xp mp a1 a2 a3 a4 a5 a6 b1 b2 b3 b4 b5 b6 pa pe sa sc xa xc ma mc w1 w2 w3 w4 w5 w6 w7 sf smv cs cm bud wins wv y1 y2 y3 y4 y5 y6 y7 y8 fst m z bs bm bz bh ne seen wave op ob he be wave2 h
  obtain ⟨h0, hN, hmv, hnear, hed, hbnear, hbed, hB, hP, hND, hPl, hTr, hLx, hg⟩ := id h
  have l1 := LL_le hND.2.2.1
  have l2 := LL_le hPl.2.2.1
  have l3 := LL_le hTr.2.2.1
  have l4 := LL_le hLx
  obtain ⟨r, tc1, tn1, xa1, xc1, g1, ma1, mc1, q1, q2, q3, q4, q5, q6⟩ := plant_both (F := F) (g := g) (S (i + 1).toNatClampNeg) (S (i + 2).toNatClampNeg) hTr (by omega)
  rw [law_c13, if_neg h1, if_neg h2, q1, bd7_e, q2, bd4_e, if_pos rfl]
  exact hr _ _ _ _ _ _ _ _ _ _ _ _ _ _ _ _ _ _ _ _ _ _ _ _ _ _ _ _ _ _ _ _ _ _ _ _ _ _ _ _ _ _ _ _ _ _ _ _ _ _ _ _ _ _ _ _ _ _ _ _ _ _ _ _ _ _ _ _ _ _ _ _ _ _ _ _ ⟨h0, hN, hmv, hnear, hed, hbnear, hbed, hB, hP, hND, hPl, q3, hLx, by omega⟩
set_option maxRecDepth 100000 in
theorem AL_c14 {F L : Nat} {S : Nat → Int32} {f : TF} {i : Int32} (hF : 9000 < F) (h1 : ¬ (i + (1 : Int32) < 0 ∨ L ≤ (i + (1 : Int32)).toNatClampNeg)) (h2 : ¬ (i + (2 : Int32) < 0 ∨ L ≤ (i + (2 : Int32)).toNatClampNeg)) (hr : AL f (i + 4)) : AL (law_c14 F L S f) i := by
  intro N pc nc nn ec pn tc tn nx g mv xs ms near ed bnear bed xp mp a1 a2 a3 a4 a5 a6 b1 b2 b3 b4 b5 b6 pa pe sa sc xa xc ma mc w1 w2 w3 w4 w5 w6 w7 sf smv cs cm bud wins wv y1 y2 y3 y4 y5 y6 y7 y8 fst m z bs bm bz bh ne seen wave op ob he be wave2 h
  obtain ⟨h0, hN, hmv, hnear, hed, hbnear, hbed, hB, hP, hND, hPl, hTr, hLx, hg⟩ := id h
  have l1 := LL_le hND.2.2.1
  have l2 := LL_le hPl.2.2.1
  have l3 := LL_le hTr.2.2.1
  have l4 := LL_le hLx
  obtain ⟨r, xc1, mc1, q1, q2, q3⟩ := graft_both (F := F) (S (i + 1).toNatClampNeg) (S (i + 2).toNatClampNeg) hTr
  rw [law_c14, if_neg h1, if_neg h2, q1, bd2_e, q2, bd2_e, if_pos rfl]
  exact hr _ _ _ _ _ _ _ _ _ _ _ _ _ _ _ _ _ _ _ _ _ _ _ _ _ _ _ _ _ _ _ _ _ _ _ _ _ _ _ _ _ _ _ _ _ _ _ _ _ _ _ _ _ _ _ _ _ _ _ _ _ _ _ _ _ _ _ _ _ _ _ _ _ _ _ _ ⟨h0, hN, hmv, hnear, hed, hbnear, hbed, hB, hP, hND, hPl, q3, hLx, hg⟩
set_option maxRecDepth 100000 in
theorem AL_c15 {F L : Nat} {S : Nat → Int32} {f : TF} {i : Int32} (hF : 9000 < F) (h1 : ¬ (i + (1 : Int32) < 0 ∨ L ≤ (i + (1 : Int32)).toNatClampNeg)) (hr : AL f (i + 4)) : AL (law_c15 F L S f) i := by
  intro N pc nc nn ec pn tc tn nx g mv xs ms near ed bnear bed xp mp a1 a2 a3 a4 a5 a6 b1 b2 b3 b4 b5 b6 pa pe sa sc xa xc ma mc w1 w2 w3 w4 w5 w6 w7 sf smv cs cm bud wins wv y1 y2 y3 y4 y5 y6 y7 y8 fst m z bs bm bz bh ne seen wave op ob he be wave2 h
  obtain ⟨h0, hN, hmv, hnear, hed, hbnear, hbed, hB, hP, hND, hPl, hTr, hLx, hg⟩ := id h
  have l1 := LL_le hND.2.2.1
  have l2 := LL_le hPl.2.2.1
  have l3 := LL_le hTr.2.2.1
  have l4 := LL_le hLx
  obtain ⟨r, tc1, q1, q2, q3⟩ := prune_both (F := F) (S (i + 1).toNatClampNeg) hTr
  rw [law_c15, if_neg h1, q1, bd2_e, q2, bd2_e, if_pos rfl]
  exact hr _ _ _ _ _ _ _ _ _ _ _ _ _ _ _ _ _ _ _ _ _ _ _ _ _ _ _ _ _ _ _ _ _ _ _ _ _ _ _ _ _ _ _ _ _ _ _ _ _ _ _ _ _ _ _ _ _ _ _ _ _ _ _ _ _ _ _ _ _ _ _ _ _ _ _ _ ⟨h0, hN, hmv, hnear, hed, hbnear, hbed, hB, hP, hND, hPl, q3, hLx, hg⟩
set_option maxRecDepth 100000 in
theorem AL_c16 {F L : Nat} {S : Nat → Int32} {f : TF} {i : Int32} (hF : 9000 < F) (h1 : ¬ (i + (1 : Int32) < 0 ∨ L ≤ (i + (1 : Int32)).toNatClampNeg)) (hr : AL f (i + 4)) : AL (law_c16 F L S f) i := by
  intro N pc nc nn ec pn tc tn nx g mv xs ms near ed bnear bed xp mp a1 a2 a3 a4 a5 a6 b1 b2 b3 b4 b5 b6 pa pe sa sc xa xc ma mc w1 w2 w3 w4 w5 w6 w7 sf smv cs cm bud wins wv y1 y2 y3 y4 y5 y6 y7 y8 fst m z bs bm bz bh ne seen wave op ob he be wave2 h
  obtain ⟨h0, hN, hmv, hnear, hed, hbnear, hbed, hB, hP, hND, hPl, hTr, hLx, hg⟩ := id h
  have l1 := LL_le hND.2.2.1
  have l2 := LL_le hPl.2.2.1
  have l3 := LL_le hTr.2.2.1
  have l4 := LL_le hLx
  obtain ⟨r, m1, z1, bs1, bm1, bz1, cs1, cm1, nx1, bh1, ne1, g1, wv1, ms1, seen1, wave1, he1, be1, wave21, q1, q2, q3, q4, q5, q6⟩ := check_both (F := F) (g := g) (m := m) (z := z) (bs := bs) (bm := bm) (bz := bz) (bh := bh) (ne := ne) (he := he) (be := be) (seen := seen) (wave := wave) (wave2 := wave2) mv wv cs cm (S (i + 1).toNatClampNeg) hF hN h0 hmv hnear hed hbnear hbed hTr hLx (by omega) hB
  rw [law_c16, if_neg h1, q1, bd13_e, q2, bd8_e, if_pos rfl]
  exact hr _ _ _ _ _ _ _ _ _ _ _ _ _ _ _ _ _ _ _ _ _ _ _ _ _ _ _ _ _ _ _ _ _ _ _ _ _ _ _ _ _ _ _ _ _ _ _ _ _ _ _ _ _ _ _ _ _ _ _ _ _ _ _ _ _ _ _ _ _ _ _ _ _ _ _ _ ⟨h0, hN, hmv, hnear, hed, hbnear, hbed, q3, hP, hND, hPl, hTr, q4, by omega⟩
set_option maxRecDepth 100000 in
theorem AL_cd {F L : Nat} {S : Nat → Int32} {f : TF} {i : Int32} (hF : 9000 < F)  (hr : AL f (i + 4)) : AL (law_cd F L S f) i := by
  intro N pc nc nn ec pn tc tn nx g mv xs ms near ed bnear bed xp mp a1 a2 a3 a4 a5 a6 b1 b2 b3 b4 b5 b6 pa pe sa sc xa xc ma mc w1 w2 w3 w4 w5 w6 w7 sf smv cs cm bud wins wv y1 y2 y3 y4 y5 y6 y7 y8 fst m z bs bm bz bh ne seen wave op ob he be wave2 h
  obtain ⟨h0, hN, hmv, hnear, hed, hbnear, hbed, hB, hP, hND, hPl, hTr, hLx, hg⟩ := id h
  have l1 := LL_le hND.2.2.1
  have l2 := LL_le hPl.2.2.1
  have l3 := LL_le hTr.2.2.1
  have l4 := LL_le hLx
  rw [law_cd]
  exact hr _ _ _ _ _ _ _ _ _ _ _ _ _ _ _ _ _ _ _ _ _ _ _ _ _ _ _ _ _ _ _ _ _ _ _ _ _ _ _ _ _ _ _ _ _ _ _ _ _ _ _ _ _ _ _ _ _ _ _ _ _ _ _ _ _ _ _ _ _ _ _ _ _ _ _ _ ⟨h0, hN, hmv, hnear, hed, hbnear, hbed, hB, hP, hND, hPl, hTr, hLx, hg⟩
