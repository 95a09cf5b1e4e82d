/-! PURE: new nodes, on both sides -/
def un (f : Nat → Nat) (i x : Nat) : Nat → Nat := fun j => if j = i then x else f j
theorem un_s {f : Nat → Nat} {i x : Nat} : un f i x i = x := if_pos rfl
theorem un_n {f : Nat → Nat} {i x j : Nat} (h : j ≠ i) : un f i x j = f j := if_neg h
theorem lengthen_ok {F g n : Nat} {a1 a2 a3 a4 a5 a6 : Nat → Int32} (hL : LL n) (h8 : n < 8000) (hg : 13 * 8000 ≤ g + 13 * n) :
    pm_X3_lengthen F g n a1 n a2 n a3 n a4 n a5 n a6 = some (dbl n, va_cpy a1 (fun _ => 0) 0 0 n, dbl n, va_cpy a2 (fun _ => 0) 0 0 n, dbl n, va_cpy a3 (fun _ => 0) 0 0 n, dbl n, va_cpy a4 (fun _ => 0) 0 0 n, dbl n, va_cpy a5 (fun _ => 0) 0 0 n, dbl n, va_cpy a6 (fun _ => 0) 0 0 n, g - (dbl n + 1) - (dbl n + 1) - (dbl n + 1) - (dbl n + 1) - (dbl n + 1) - (dbl n + 1)) := by
  obtain ⟨d1, d2, d3, d4, d5, d6⟩ := LL_dbl hL h8
  rw [pm_X3_lengthen, roomier_ok hL h8, bd1_e, copyOf_ok d2 d3 (by omega), bd3_e, copyOf_ok d2 d3 (by omega), bd3_e, copyOf_ok d2 d3 (by omega), bd3_e, copyOf_ok d2 d3 (by omega), bd3_e, copyOf_ok d2 d3 (by omega), bd3_e, copyOf_ok d2 d3 (by omega), bd3_e]
def AG6 (nc : Nat) (a1 a2 a3 a4 a5 a6 b1 b2 b3 b4 b5 b6 : Nat → Int32) : Prop := ∀ i, i < nc → a1 i = b1 i ∧ a2 i = b2 i ∧ a3 i = b3 i ∧ a4 i = b4 i ∧ a5 i = b5 i ∧ a6 i = b6 i
theorem nadd_ok {F g nc nn : Nat} {a1 a2 a3 a4 a5 a6 : Nat → Int32} (x y : Int32) (hc : nc < 8000) (hcn : nc ≤ nn) (hL : LL nn) (hg : 13 * 8000 ≤ g + 13 * nn) :
    ∃ nn' b1 b2 b3 b4 b5 b6 g', pm_X3_add F g (nI nc) nn a1 nn a2 nn a3 nn a4 nn a5 nn a6 x y = some (nI nc, nI (nc + 1), nn', b1, nn', b2, nn', b3, nn', b4, nn', b5, nn', b6, g') ∧ LL nn' ∧ nn ≤ nn' ∧ nc + 1 ≤ nn' ∧ AG6 nc b1 b2 b3 b4 b5 b6 a1 a2 a3 a4 a5 a6 ∧ b1 nc = y ∧ b2 nc = x ∧ b3 nc = 1 ∧ b4 nc = 1 ∧ b5 nc = -1 ∧ b6 nc = 0 ∧ g + 13 * nn ≤ g' + 13 * nn' ∧ g' ≤ g := by
  have hl := LL_le hL
  have e8 : (8000 : Int32) = nI 8000 := by decide
  have ret : nI nc + (1 : Int32) - (1 : Int32) = nI nc := by rw [z_1]; exact nI_pred nc
  rw [pm_X3_add, e8, if_pos (nI_lt hc (by omega)), ret, z_1, z_cl (show nc < 2 ^ 31 by omega)]
  by_cases h : nc < nn
  · have hb := z_in h (show nn < 2 ^ 31 by omega)
    rw [if_pos (nI_lt h (by omega)), bd13_e, if_neg hb, if_neg hb, if_neg hb, if_neg hb, if_neg hb, if_neg hb]
    exact ⟨nn, _, _, _, _, _, _, g, rfl, hL, Nat.le_refl _, h, fun i hi => ⟨u_n (by omega), u_n (by omega), u_n (by omega), u_n (by omega), u_n (by omega), u_n (by omega)⟩, u_s, u_s, u_s, u_s, u_s, u_s, Nat.le_refl _, Nat.le_refl _⟩
  · have hcn2 : nc = nn := by omega
    subst hcn2
    obtain ⟨d1, d2, d3, d4, d5, d6⟩ := LL_dbl hL hc
    have hb := z_in d2 (show dbl nc < 2 ^ 31 by omega)
    rw [if_neg (nI_nlt (Nat.le_refl _) (by omega)), lengthen_ok hL hc hg, bd13_e, bd13_e, if_neg hb, if_neg hb, if_neg hb, if_neg hb, if_neg hb, if_neg hb]
    exact ⟨dbl nc, _, _, _, _, _, _, _, rfl, d1, by omega, by omega, fun i hi => ⟨(u_n (by omega)).trans (cpy_lo hi), (u_n (by omega)).trans (cpy_lo hi), (u_n (by omega)).trans (cpy_lo hi), (u_n (by omega)).trans (cpy_lo hi), (u_n (by omega)).trans (cpy_lo hi), (u_n (by omega)).trans (cpy_lo hi)⟩, u_s, u_s, u_s, u_s, u_s, u_s, by omega, by omega⟩
/-- the numbers of a new node -/
def nv (mv fs : Int32) (won : Prop) (p d : Nat) : Prop := (¬ won ∧ p = 1 ∧ d = 1) ∨ (won ∧ mv = fs ∧ p = 0 ∧ d = 1000000000) ∨ (won ∧ ¬ mv = fs ∧ p = 1000000000 ∧ d = 0)
theorem child_both {F g N nc nn n c : Nat} {xs ms near ed m a1 a2 a3 a4 a5 a6 e1 e2 e3 e4 e5 e6 seen wave : Nat → Int32} {fs mv : Int32} (w : Int32) (hF : 9000 < F) (hN : N < 12) (h0 : 0 < N) (hmv : mv = 1 ∨ mv = 2) (hnear : ∀ c, c < N * N → ∀ k, k < 6 → near (6 * c + k) = nbI N c k) (hed : ∀ c, c < N * N → ed c = edI N c) (hB : BR N xs ms) (hM : ME N xs mv (N * N) m) (hW : NW N xs) (hc : c < N * N) (hx0 : xs c = 0) (h8 : nc < 8000) (hcn : nc ≤ nn) (hL : LL nn) (hg : 13 * 8000 ≤ g + 13 * nn) :
    ∃ p d nn' b1 b2 b3 b4 b5 b6 g' w' seen' wave', pm_X4_addChild F g fs mv (N * N) (6 * (N * N)) near (N * N) ed (N * N) m (nI nc) nn a1 nn a2 nn a3 nn a4 nn a5 nn a6 (nI n) (nI c) = some (nI (nc + 1), nn', b1, nn', b2, nn', b3, nn', b4, nn', b5, nn', b6, g') ∧ pm_X7_makeNode F (nI N) (nI (N * N)) (nI nc) w fs 121 (upd ms c mv) 8000 e1 8000 e2 8000 e3 8000 e4 8000 e5 8000 e6 121 seen 121 wave (nI c) (nI n) = some (nI (nc + 1), w', upd e1 nc (nI c), upd e2 nc (nI n), upd e3 nc (nI p), upd e4 nc (nI d), upd e5 nc (-1), upd e6 nc 0, seen', wave') ∧ nv mv fs (Won N (upd xs c mv) mv) p d ∧ LL nn' ∧ nn ≤ nn' ∧ nc + 1 ≤ nn' ∧ AG6 nc b1 b2 b3 b4 b5 b6 a1 a2 a3 a4 a5 a6 ∧ b1 nc = nI c ∧ b2 nc = nI n ∧ b3 nc = nI p ∧ b4 nc = nI d ∧ b5 nc = -1 ∧ b6 nc = 0 ∧ g + 13 * nn ≤ g' + 13 * nn' ∧ g' ≤ g := by
  have hn := sq_le hN
  have hB' : BR N (upd xs c mv) (upd ms c mv) := hB.put (side_s3 hmv)
  have hnw : ¬ Won N xs mv := by
    rcases hmv with rfl | rfl
    · exact hW.1
    · exact hW.2
  obtain ⟨nn', b1, b2, b3, b4, b5, b6, g', q1, q2, q3, q4, q5, q6, q7, q8, q9, q10, q11, q12, q13⟩ := nadd_ok (F := F) (a1 := a1) (a2 := a2) (a3 := a3) (a4 := a4) (a5 := a5) (a6 := a6) (nI n) (nI c) h8 hcn hL hg
  have hl := LL_le q2
  obtain ⟨r, p1, p2⟩ := would_ok (F := F) (by omega) hN hc hmv hx0 hnw hnear hed hM
  obtain ⟨r2, w', seen', wave', s1, s2⟩ := isWon_ok (F := F) (st := upd ms c mv) (seen := seen) (wave := wave) (by omega) hN h0 hmv
  rw [won_iff hN (fun i hi => (hB' i hi).2)] at s2
  have bb := z_in (show nc < 8000 by omega) (by omega)
  have mv0 : ¬ mv = 0 := by rcases hmv with rfl | rfl <;> decide
  rw [pm_X4_addChild, q1, bd15_e, if_neg (nI_m1 (show nc < 2 ^ 31 by omega)), p1, bd1_e, pm_X7_makeNode, z_bd h8 (by omega), z_bd h8 (by omega), z_bd h8 (by omega), z_bd h8 (by omega), if_pos (nI_pos' (show c < 2 ^ 31 by omega)), z_bd (show c < 121 by omega) (by omega), z_cl (show c < 2 ^ 31 by omega), u_s, s1, bd4_e, z_cl (show nc < 2 ^ 31 by omega), z_1]
  by_cases hw : Won N (upd xs c mv) mv
  · have er : r = 1 := by
      rcases p2 with ⟨a, b⟩ | ⟨a, b⟩
      · exact a
      · exact absurd hw b
    have er2 : r2 = 1 := by
      rcases s2 with ⟨a, b⟩ | ⟨a, b⟩
      · exact a
      · exact absurd hw b
    subst er er2
    rw [if_neg (show ¬ (1 : Int32) = 0 by decide), if_neg (show ¬ (1 : Int32) = 0 by decide), bd4_e, if_neg mv0, if_neg mv0]
    have b2' := z_in (show nc < nn' by omega) (show nn' < 2 ^ 31 by omega)
    by_cases hf : mv = fs
    · simp only [if_pos hf, bd1_e, if_neg b2', if_neg bb]
      refine ⟨0, 1000000000, nn', _, _, _, _, _, _, g', nI w', seen', wave', rfl, ?_, Or.inr (Or.inl ⟨hw, hf, rfl, rfl⟩), q2, q3, q4, fun i hi => ?_, q6, q7, u_s.trans nI_0.symm, u_s.trans (by decide), q10, q11, q12, q13⟩
      · rw [nI_0, show nI 1000000000 = (1000000000 : Int32) from by decide]
      · obtain ⟨t1, t2, t3, t4, t5, t6⟩ := q5 i hi
        exact ⟨t1, t2, (u_n (by omega)).trans t3, (u_n (by omega)).trans t4, t5, t6⟩
    · simp only [if_neg hf, bd1_e, if_neg b2', if_neg bb]
      refine ⟨1000000000, 0, nn', _, _, _, _, _, _, g', nI w', seen', wave', rfl, ?_, Or.inr (Or.inr ⟨hw, hf, rfl, rfl⟩), q2, q3, q4, fun i hi => ?_, q6, q7, u_s.trans (by decide), u_s.trans nI_0.symm, q10, q11, q12, q13⟩
      · rw [nI_0, show nI 1000000000 = (1000000000 : Int32) from by decide]
      · obtain ⟨t1, t2, t3, t4, t5, t6⟩ := q5 i hi
        exact ⟨t1, t2, (u_n (by omega)).trans t3, (u_n (by omega)).trans t4, t5, t6⟩
  · have er : r = 0 := by
      rcases p2 with ⟨a, b⟩ | ⟨a, b⟩
      · exact absurd b hw
      · exact a
    have er2 : r2 = 0 := by
      rcases s2 with ⟨a, b⟩ | ⟨a, b⟩
      · exact absurd b hw
      · exact a
    subst er er2
    rw [if_pos rfl, if_pos rfl, bd4_e, if_pos rfl, if_pos rfl, bd1_e, if_neg bb, bd1_e, if_neg bb]
    refine ⟨1, 1, nn', b1, b2, b3, b4, b5, b6, g', nI w', seen', wave', rfl, ?_, Or.inl ⟨hw, rfl, rfl⟩, q2, q3, q4, q5, q6, q7, q8.trans (by decide), q9.trans (by decide), q10, q11, q12, q13⟩
    rw [show nI 1 = (1 : Int32) from by decide]
