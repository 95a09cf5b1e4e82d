/-! PURE: the search's loop, on both sides -/
theorem RE_RW {nc n c0 E : Nat} {a1 a2 a3 a4 a5 a6 : Nat → Int32} {Q A C K P D : Nat → Nat} (h : RE nc n a1 a2 a3 a4 a5 a6 Q A C K P D) (h5 : a5 n = nI c0) (h6 : a6 n = nI E) (hE : 0 < E) : RW nc a1 a2 a3 a4 a5 a6 Q A (un C n c0) (un K n E) P D := by
  intro i hi
  obtain ⟨t1, t2, t3, t4, t5⟩ := h i hi
  by_cases e : i = n
  · subst e
    rw [un_s, un_s, if_neg (show ¬ E = 0 by omega)]
    exact ⟨t1, t2, t3, t4, h5, h6⟩
  · rw [un_n e, un_n e]
    exact ⟨t1, t2, t3, t4, t5 e⟩
theorem RW_RE {nc n : Nat} {a1 a2 a3 a4 a5 a6 : Nat → Int32} {x y : Int32} {Q A C K P D : Nat → Nat} (h : RW nc a1 a2 a3 a4 a5 a6 Q A C K P D) : RE nc n a1 a2 a3 a4 (upd a5 n x) (upd a6 n y) Q A C K P D := by
  intro i hi
  obtain ⟨t1, t2, t3, t4, t5, t6⟩ := h i hi
  exact ⟨t1, t2, t3, t4, fun e => ⟨(u_n e).trans t5, (u_n e).trans t6⟩⟩
theorem RW_RE' {nc n : Nat} {a1 a2 a3 a4 a5 a6 : Nat → Int32} {x : Int32} {Q A C K P D : Nat → Nat} (h : RW nc a1 a2 a3 a4 a5 a6 Q A C K P D) : RE nc n a1 a2 a3 a4 (upd a5 n x) a6 Q A C K P D := by
  intro i hi
  obtain ⟨t1, t2, t3, t4, t5, t6⟩ := h i hi
  exact ⟨t1, t2, t3, t4, fun e => ⟨(u_n e).trans t5, t6⟩⟩
theorem RE_up {nc n : Nat} {a1 a2 a3 a4 a5 a6 : Nat → Int32} {x : Int32} {Q A C K P D : Nat → Nat} (h : RE nc n a1 a2 a3 a4 a5 a6 Q A C K P D) : RE nc n a1 a2 a3 a4 a5 (upd a6 n x) Q A C K P D := by
  intro i hi
  obtain ⟨t1, t2, t3, t4, t5⟩ := h i hi
  exact ⟨t1, t2, t3, t4, fun e => ⟨(t5 e).1, (u_n e).trans (t5 e).2⟩⟩
theorem settled_ok {F nn : Nat} {pf df : Nat → Int32} {P D : Nat → Nat} (h0 : 0 < nn) (hn : nn ≤ 8000) (hp : pf 0 = nI (P 0)) (hd : df 0 = nI (D 0)) (hP : P 0 ≤ 1000000000) (hD : D 0 ≤ 1000000000) : pm_X4_isSettled F nn pf nn df (nI 0) = if P 0 = 0 ∨ D 0 = 0 then some 1 else some 0 := by
  have z : ∀ x : Nat, x ≤ 1000000000 → (nI x = 0 ↔ x = 0) := fun x hx => by
    rw [show (0 : Int32) = nI 0 from nI_0.symm]
    exact nI_eq (by omega) (by omega)
  rw [pm_X4_isSettled, z_bd h0 (by omega), z_cl (show 0 < 2 ^ 31 by omega), hp, hd]
  by_cases a : P 0 = 0
  · rw [if_pos ((z _ hP).mpr a), if_pos (Or.inl a)]
  · rw [if_neg (fun q => a ((z _ hP).mp q)), if_neg (z_in h0 (by omega))]
    by_cases b : D 0 = 0
    · rw [if_pos ((z _ hD).mpr b), if_pos (Or.inr b)]
    · rw [if_neg (fun q => b ((z _ hD).mp q)), if_neg (by omega)]
theorem seek_L {F N bu : Nat} {base near ed : Nat → Int32} {fs : Int32} (hF : 9000 < F) (hN : N < 12) (h0 : 0 < N) (hfs : fs = 1 ∨ fs = 2) (hnear : ∀ c, c < N * N → ∀ k, k < 6 → near (6 * c + k) = nbI N c k) (hed : ∀ c, c < N * N → ed c = edI N c) (hbu : bu ≤ 8000) :
    ∀ k n nc nn g (Q A C K P D b : Nat → Nat) (a1 a2 a3 a4 a5 a6 e1 e2 e3 e4 e5 e6 xs m z seen wave : Nat → Int32) (go w : Int32), ((go = 1 ∧ 8001 < nc + k ∧ n + 1 ≤ nc) ∨ (go = 0 ∧ 0 < k)) → nc ≤ nn → LL nn → 13 * 8000 ≤ g + 13 * nn → TI N nc base fs Q A C K P D b → TN nc A C K P D b (fun _ => False) → RW nc a1 a2 a3 a4 a5 a6 Q A C K P D → RW nc e1 e2 e3 e4 e5 e6 Q A C K P D → BR N xs base →
    ∃ nc' nn' g' Q' A' C' K' P' D' b' a1' a2' a3' a4' a5' a6' e1' e2' e3' e4' e5' e6' xs' m' z' seen' wave' w', pm_X4_seek_L42 F (N * N) (6 * (N * N)) near (N * N) ed (N * N) (N * N) fs (nI bu) (nI 0) k go (nI n) fs xs m z (nI nc) nn a1 nn a2 nn a3 nn a4 nn a5 nn a6 g = some (fs, xs', m', z', nI nc', nn', a1', nn', a2', nn', a3', nn', a4', nn', a5', nn', a6', g') ∧ pm_X7_search_L52 F (nI N) (nI (N * N)) fs 121 8000 8000 8000 8000 8000 8000 121 121 (nI bu) k go (nI nc) w base e1 e2 e3 e4 e5 e6 seen wave = some (nI nc', w', base, e1', e2', e3', e4', e5', e6', seen', wave') ∧ nc' ≤ nn' ∧ LL nn' ∧ nn ≤ nn' ∧ g + 13 * nn ≤ g' + 13 * nn' ∧ g' ≤ g ∧ TI N nc' base fs Q' A' C' K' P' D' b' ∧ TN nc' A' C' K' P' D' b' (fun _ => False) ∧ RW nc' a1' a2' a3' a4' a5' a6' Q' A' C' K' P' D' ∧ RW nc' e1' e2' e3' e4' e5' e6' Q' A' C' K' P' D' := by
  have hsq := sq_le hN
  have e8 : (8000 : Int32) = nI 8000 := by decide
  intro k
  induction k with
  | zero =>
    intro n nc nn g Q A C K P D b a1 a2 a3 a4 a5 a6 e1 e2 e3 e4 e5 e6 xs m z seen wave go w hgo hnn hL hg hT
    have := hT.1
    omega
  | succ k ih =>
    intro n nc nn g Q A C K P D b a1 a2 a3 a4 a5 a6 e1 e2 e3 e4 e5 e6 xs m z seen wave go w hgo hnn hL hg hT hTN hx hm hB
    have hl := LL_le hL
    have hnc := hT.1
    rw [pm_X4_seek_L42, pm_X7_search_L52]
    rcases hgo with ⟨rfl, hk, hn1⟩ | ⟨rfl, hk⟩
    · have htri := (hTN [] 0 (by omega) rfl (fun q => q)).1
      have hb0 := b_le hT 0 (by omega)
      have hle := tri_le htri (by omega)
      have x3 := (hx 0 (by omega)).2.2.1
      have x4 := (hx 0 (by omega)).2.2.2.1
      have m3 := (hm 0 (by omega)).2.2.1
      have m4 := (hm 0 (by omega)).2.2.2.1
      have et0 : (0 : Int32).toNatClampNeg = 0 := by decide
      have zz : ∀ x : Nat, x ≤ 1000000000 → (nI x = 0 ↔ x = 0) := fun x hx => by
        rw [show (0 : Int32) = nI 0 from nI_0.symm]
        exact nI_eq (by omega) (by omega)
      rw [e8, z_gt (show n < 8000 by omega) (by omega), if_neg (show ¬ (1 : Int32) = 0 by decide), if_neg (show ¬ (1 : Int32) = 0 by decide), settled_ok (by omega) hl.2 x3 x4 hle.1 hle.2, z_b0 (show 0 < 8000 by omega), et0, m3, m4]
      by_cases hset : P 0 = 0 ∨ D 0 = 0
      · rw [if_pos hset, bd1_e, if_neg (show ¬ (1 : Int32) = 0 by decide)]
        refine ⟨nc, nn, g, Q, A, C, K, P, D, b, a1, a2, a3, a4, a5, a6, e1, e2, e3, e4, e5, e6, xs, m, z, seen, wave, w, rfl, ?_, hnn, hL, Nat.le_refl _, Nat.le_refl _, Nat.le_refl _, hT, hTN, hx, hm⟩
        by_cases hp0 : P 0 = 0
        · rw [if_pos ((zz _ hle.1).mpr hp0)]
        · rw [if_neg (fun q => hp0 ((zz _ hle.1).mp q)), if_neg (by decide), if_pos ((zz _ hle.2).mpr (by omega))]
      · have hP0 : ¬ P 0 = 0 := fun q => hset (Or.inl q)
        have hD0 : ¬ D 0 = 0 := fun q => hset (Or.inr q)
        rw [if_neg hset, bd1_e, if_pos rfl, if_neg (fun q => hP0 ((zz _ hle.1).mp q)), if_neg (show ¬ ((0 : Int32) < 0 ∨ 8000 ≤ 0) by decide), if_neg (fun q => hD0 ((zz _ hle.2).mp q))]
        obtain ⟨i, l, xs1, q1, q2, q3, q4, q5, q6, q7, q8⟩ := descend_both (F := F) hF hN hfs hT hTN hx hm hnn hl.2 F 0 [] xs (by omega) rfl hP0 hD0 hB (by omega)
        have q1' : pm_X4_descend_L4 F fs (N * N) nn a1 nn a3 nn a4 nn a5 nn a6 F (nI 0) 0 fs xs = some (nI i, sdl fs l.length, xs1) := by rw [← q1, show ([] : List Nat).length = 0 from rfl, sdl_0, nI_0]
        have q2' : pm_X7_grow_L7 F fs 121 8000 e1 8000 e3 8000 e4 8000 e5 8000 e6 F 0 fs base = some (nI i, sdl fs l.length, sS base fs Q l) := by rw [← q2, nI_0, show ([] : List Nat).length = 0 from rfl, sdl_0]; rfl
        have hlen := len_S hfs hT l i q3 q4
        have hNW : NW N (sS base fs Q l) := hT.2.2.2.2.2.2.1 l i q3 q4 (fun _ => q6)
        have hNWx : NW N xs1 := hNW.congr hN (fun j hj => ((q8 j hj).2).symm)
        have hmv := sdl_12 hfs l.length
        have hce : cnt (em (sS base fs Q l)) (N * N) = cnt (em xs1) (N * N) := cnt_em (fun j hj => (q8 j hj).2)
        have hE : 0 < cnt (em xs1) (N * N) := by
          rcases Nat.eq_zero_or_pos (cnt (em xs1) (N * N)) with q | q
          · rcases full_won hN h0 (FB_of q8 q) with r | r
            · exact absurd r hNWx.1
            · exact absurd r hNWx.2
          · exact q
        have hEle := cnt_le (em xs1) (N * N)
        rw [pm_X4_descend, q1', bd3_e, bd3_e, pm_X4_expand, countEmpty_ok (by omega) (by omega), bd1_e, pm_X7_grow, q2', bd3_e, empty_ok (by omega) (by omega) (by omega), hce, bd1_e, nI_add]
        by_cases hroom : nc + cnt (em xs1) (N * N) ≤ bu
        · obtain ⟨mk, zk, p1, p2⟩ := markFrom_ok (F := F) (st := xs1) (m := m) (z := z) (by omega) hN hmv hnear hed
          obtain ⟨nn1, g1, Q1, A1, C1, K1, P1, D1, b1, b2, b3, b4, b5, b6, f1, f2, f3, f4, f5, f6, w1, seen1, wave1, r1, r2, r3, r4, r5, r6, r7, r8, r9, r10, r11, r12, r13, r14⟩ := expand_L (F := F) (fs := fs) hF hN h0 hmv hnear hed q8 p2 hNWx q3 (show nc + cnt (em xs1) (N * N) ≤ 8000 by omega) F 0 nc nn g Q A C K P D a1 a2 a3 a4 (upd a5 i (nI nc)) (upd a6 i (nI (cnt (em xs1) (N * N)))) e1 e2 e3 e4 (upd e5 i (nI nc)) e6 seen wave w (by omega) (by omega) rfl hnn hL hg (RW_RE hx) (RW_RE' hm) (fun t t1 t2 => by
            have : t < nc := t2
            omega)
          rw [show nI 0 = (0 : Int32) from nI_0] at r1 r2
          rw [u_s] at r12 r13 r14
          obtain ⟨t1, t2, t3, t4⟩ := grown (E := cnt (em xs1) (N * N)) hN hfs rfl hT hTN q3 q4 q5 q6 hE (by omega) q8 r11 r10
          have hX := RE_RW r8 r12 r13 hE
          have hsub : nI (nc + cnt (em xs1) (N * N)) - nI nc = nI (cnt (em xs1) (N * N)) := by
            rw [pk_sub (by omega)]
            congr 1
            omega
          have hM := RE_RW (a6 := upd f6 i (nI (cnt (em xs1) (N * N)))) (RE_up r9) r14 u_s hE
          have hl1 := LL_le r3
          have hB1 : BR N xs1 (sS base fs Q1 l) := by rw [t4]; exact q8
          obtain ⟨P2, D2, xs2, xpf, xdf, mpf, mdf, s1, s2, s3, s4, s5, s6, s7⟩ := upR_both (F := F) hF hN hfs r5 hl1.2 l F F 0 i P1 D1 xs1 b3 b4 f3 f4 (by omega) (by omega) (by omega) (by omega) t3 (by rw [un_s]; exact hE) t1 t2 hX hM hB1
          rw [show nI 0 = (0 : Int32) from nI_0] at s1
          rw [t4] at s2
          have bi := z_in (show i < nn by omega) (show nn < 2 ^ 31 by omega)
          have bm := z_in (show i < 8000 by omega) (show 8000 < 2 ^ 31 by omega)
          rw [z_le hroom (by omega), p1, bd2_e, if_neg (nI_nle hE (by omega)), bd1_e, z_cl (show i < 2 ^ 31 by omega), if_neg bi, if_neg bi, r1, bd14_e, bd17_e, pm_X4_climb]
          rw [if_neg (nI_nlt hroom (by omega)), bd1_e, if_neg (show ¬ (1 : Int32) = 0 by decide), if_neg bm, r2, bd11_e, if_neg bm, bd11_e, r14, hsub, s2, bd3_e, if_pos (Or.inr rfl), bd12_e]
          have s1' : bd4 (bd2 (pm_X4_reckon F fs (sdl fs l.length) nn1 b3 nn1 b4 nn1 b5 nn1 b6 (nI i)) fun p d => bd4 (pm_X4_climb_L9 F fs (N * N) nn1 b1 nn1 b2 nn1 nn1 nn1 b5 nn1 b6 F (nI i) 0 (sdl fs l.length) xs1 p d) fun x1 x2 x3 x4 => some (x1, x2, x3, x4)) (fun mv2 st2 pf2 df2 => pm_X4_seek_L42 F (N * N) (6 * (N * N)) near (N * N) ed (N * N) (N * N) fs (nI bu) (nI 0) k 1 (nI n + 1) mv2 st2 mk zk (nI (nc + cnt (em xs1) (N * N))) nn1 b1 nn1 b2 nn1 pf2 nn1 df2 nn1 b5 nn1 b6 g1) = pm_X4_seek_L42 F (N * N) (6 * (N * N)) near (N * N) ed (N * N) (N * N) fs (nI bu) (nI 0) k 1 (nI (n + 1)) fs xs2 mk zk (nI (nc + cnt (em xs1) (N * N))) nn1 b1 nn1 b2 nn1 xpf nn1 xdf nn1 b5 nn1 b6 g1 := by
            cases hr : pm_X4_reckon F fs (sdl fs l.length) nn1 b3 nn1 b4 nn1 b5 nn1 b6 (nI i) with
            | none => rw [hr] at s1; cases s1
            | some v =>
              obtain ⟨v1, v2⟩ := v
              rw [hr, bd2_e] at s1
              rw [bd2_e, s1, bd4_e, bd4_e, z_1]
          rw [s1']
          obtain ⟨nc', nn', g', Q', A', C', K', P', D', b', a1', a2', a3', a4', a5', a6', e1', e2', e3', e4', e5', e6', xs', m', z', seen', wave', w', u1, u2, u3, u4, u5, u6, u7, u8⟩ := ih (n + 1) (nc + cnt (em xs1) (N * N)) nn1 g1 _ _ _ _ P2 D2 _ b1 b2 xpf xdf b5 b6 f1 f2 mpf mdf f5 (upd f6 i (nI (cnt (em xs1) (N * N)))) xs2 mk zk seen1 wave1 1 w1 (Or.inl ⟨rfl, by omega, by omega⟩) r5 r3 (by omega) s3 s4 s5 s6 s7
          exact ⟨nc', nn', g', Q', A', C', K', P', D', b', a1', a2', a3', a4', a5', a6', e1', e2', e3', e4', e5', e6', xs', m', z', seen', wave', w', u1, u2, u3, u4, by omega, by omega, by omega, u8⟩
        · have hr0 : pm_X4_reckon F fs (sdl fs l.length) nn a3 nn a4 nn a5 nn a6 (nI i) = some (a3, a4) := by
            rw [pm_X4_reckon, z_bd (show i < nn by omega) (by omega), z_cl (show i < 2 ^ 31 by omega), (hx i q3).2.2.2.2.2, q5, if_pos nI_0]
          obtain ⟨xs2, xpf, xdf, s1, s2, s3, s4⟩ := upN_both (F := F) hF hN hfs hnn hl.2 hT hTN hm l F F 0 i xs1 a3 a4 (by omega) (by omega) (by omega) q3 q4 hx q8
          rw [show nI 0 = (0 : Int32) from nI_0] at s1
          rw [z_gt (show bu < nc + cnt (em xs1) (N * N) by omega) (by omega), bd17_e, pm_X4_climb, hr0, bd2_e, s1, bd4_e, bd4_e, z_1]
          rw [if_pos (nI_lt (show bu < nc + cnt (em xs1) (N * N) by omega) (by omega)), bd1_e, if_pos (show (0 : Int32) = 0 from rfl), bd11_e, s2, bd3_e, if_pos (Or.inl rfl), bd12_e]
          exact ih (n + 1) nc nn g Q A C K P D b a1 a2 xpf xdf a5 a6 e1 e2 e3 e4 e5 e6 xs2 m z seen wave 0 w (Or.inr ⟨rfl, by omega⟩) hnn hL hg hT hTN s3 hm s4
    · refine ⟨nc, nn, g, Q, A, C, K, P, D, b, a1, a2, a3, a4, a5, a6, e1, e2, e3, e4, e5, e6, xs, m, z, seen, wave, w, ?_, ?_, hnn, hL, Nat.le_refl _, Nat.le_refl _, Nat.le_refl _, hT, hTN, hx, hm⟩
      · rw [if_pos (show (0 : Int32) = 0 from rfl)]
        split <;> rfl
      · rw [if_pos (show (0 : Int32) = 0 from rfl)]
