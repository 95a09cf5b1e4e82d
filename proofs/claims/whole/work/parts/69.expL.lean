/-! PURE: the children of a leaf, on both sides -/
theorem cnt_mono {p : Nat → Bool} : ∀ a b, a ≤ b → cnt p a ≤ cnt p b := by
  intro a b
  induction b with
  | zero => intro h; have : a = 0 := by omega
            subst this; exact Nat.le_refl _
  | succ b ih =>
    intro h
    by_cases e : a = b + 1
    · subst e; exact Nat.le_refl _
    · have := ih (by omega)
      rw [show cnt p (b + 1) = cnt p b + (if p b then 1 else 0) from rfl]
      omega
def RE (nc n : Nat) (cel ah pf df ch mn : Nat → Int32) (Q A C K P D : Nat → Nat) : Prop := ∀ i, i < nc → cel i = (if i = 0 then -1 else nI (Q i)) ∧ ah i = (if i = 0 then -1 else nI (A i)) ∧ pf i = nI (P i) ∧ df i = nI (D i) ∧ (i ≠ n → ch i = (if K i = 0 then -1 else nI (C i)) ∧ mn i = nI (K i))
def NK (N nc0 nc n : Nat) (xs : Nat → Int32) (mv fs : Int32) (Q A K P D : Nat → Nat) : Prop := ∀ i, nc0 ≤ i → i < nc → A i = n ∧ K i = 0 ∧ Q i < N * N ∧ xs (Q i) = 0 ∧ nv mv fs (Won N (upd xs (Q i) mv) mv) (P i) (D i)
def OL (nc : Nat) (Q A C K P D Q' A' C' K' P' D' : Nat → Nat) : Prop := ∀ i, i < nc → Q' i = Q i ∧ A' i = A i ∧ C' i = C i ∧ K' i = K i ∧ P' i = P i ∧ D' i = D i
theorem RE.more {nc n c p d : Nat} {a1 a2 a3 a4 a5 a6 b1 b2 b3 b4 b5 b6 : Nat → Int32} {Q A C K P D : Nat → Nat} (h : RE nc n a1 a2 a3 a4 a5 a6 Q A C K P D) (hn : n < nc) (hag : AG6 nc b1 b2 b3 b4 b5 b6 a1 a2 a3 a4 a5 a6) (h1 : b1 nc = nI c) (h2 : b2 nc = nI n) (h3 : b3 nc = nI p) (h4 : b4 nc = nI d) (h5 : b5 nc = -1) (h6 : b6 nc = 0) : RE (nc + 1) n b1 b2 b3 b4 b5 b6 (un Q nc c) (un A nc n) C (un K nc 0) (un P nc p) (un D nc d) := by
  intro i hi
  by_cases e : i = nc
  · subst e
    rw [un_s, un_s, un_s, un_s, un_s, if_neg (by omega), if_neg (by omega), h1, h2, h3, h4, h5, h6, if_pos rfl, nI_0]
    exact ⟨rfl, rfl, rfl, rfl, fun _ => ⟨rfl, rfl⟩⟩
  · rw [un_n e, un_n e, un_n e, un_n e, un_n e]
    obtain ⟨t1, t2, t3, t4, t5, t6⟩ := hag i (by omega)
    rw [t1, t2, t3, t4, t5, t6]
    exact h i (by omega)
theorem expand_L {F N nc0 n : Nat} {xs ms near ed m : Nat → Int32} {fs mv : Int32} (hF : 9000 < F) (hN : N < 12) (h0 : 0 < N) (hmv : mv = 1 ∨ mv = 2) (hnear : ∀ c, c < N * N → ∀ k, k < 6 → near (6 * c + k) = nbI N c k) (hed : ∀ c, c < N * N → ed c = edI N c) (hB : BR N xs ms) (hM : ME N xs mv (N * N) m) (hW : NW N xs) (hn0 : n < nc0) (hbud : nc0 + cnt (em xs) (N * N) ≤ 8000) :
    ∀ k c nc nn g (Q A C K P D : Nat → Nat) (a1 a2 a3 a4 a5 a6 e1 e2 e3 e4 e5 e6 seen wave : Nat → Int32) (w : Int32), c ≤ N * N → N * N < c + k → nc = nc0 + cnt (em xs) c → nc ≤ nn → LL nn → 13 * 8000 ≤ g + 13 * nn → RE nc n a1 a2 a3 a4 a5 a6 Q A C K P D → RE nc n e1 e2 e3 e4 e5 e6 Q A C K P D → NK N nc0 nc n xs mv fs Q A K P D →
    ∃ nn' g' Q' A' C' K' P' D' b1 b2 b3 b4 b5 b6 f1 f2 f3 f4 f5 f6 w' seen' wave', pm_X4_expand_L71 F fs mv (N * N) xs (6 * (N * N)) near (N * N) ed (N * N) (nI n) m k (nI c) (nI nc) nn a1 nn a2 nn a3 nn a4 nn a5 nn a6 g = some (nI (nc0 + cnt (em xs) (N * N)), nn', b1, nn', b2, nn', b3, nn', b4, nn', b5, nn', b6, g') ∧ pm_X7_grow_L94_1 F (nI N) (nI (N * N)) fs 121 8000 8000 8000 8000 8000 8000 121 121 (nI n) mv k (nI c) (nI nc) w ms e1 e2 e3 e4 e5 e6 seen wave = some (nI (nc0 + cnt (em xs) (N * N)), w', ms, f1, f2, f3, f4, f5, f6, seen', wave') ∧ LL nn' ∧ nn ≤ nn' ∧ nc0 + cnt (em xs) (N * N) ≤ nn' ∧ g + 13 * nn ≤ g' + 13 * nn' ∧ g' ≤ g ∧ RE (nc0 + cnt (em xs) (N * N)) n b1 b2 b3 b4 b5 b6 Q' A' C' K' P' D' ∧ RE (nc0 + cnt (em xs) (N * N)) n f1 f2 f3 f4 f5 f6 Q' A' C' K' P' D' ∧ NK N nc0 (nc0 + cnt (em xs) (N * N)) n xs mv fs Q' A' K' P' D' ∧ OL nc Q A C K P D Q' A' C' K' P' D' ∧ b5 n = a5 n ∧ b6 n = a6 n ∧ f5 n = e5 n := by
  have hn := sq_le hN
  intro k
  induction k with
  | zero => intro c nc nn g Q A C K P D a1 a2 a3 a4 a5 a6 e1 e2 e3 e4 e5 e6 seen wave w h1 h2; omega
  | succ k ih =>
    intro c nc nn g Q A C K P D a1 a2 a3 a4 a5 a6 e1 e2 e3 e4 e5 e6 seen wave w h1 h2 hnc hnn hL hg hx hm hK
    have hl := LL_le hL
    rw [pm_X4_expand_L71, pm_X7_grow_L94_1]
    by_cases h : c < N * N
    · have hcm := cnt_mono (p := em xs) (c + 1) (N * N) (by omega)
      have hce : cnt (em xs) (c + 1) = cnt (em xs) c + (if em xs c then 1 else 0) := rfl
      rw [z_gt h (by omega), z_gt h (by omega), isEmpty_ok h (by omega), z_bd (show c < 121 by omega) (by omega), z_cl (show c < 2 ^ 31 by omega), (hB c h).2, s3_byte (side_s3 hmv), z_1]
      by_cases hx0 : xs c = 0
      · have hems : em xs c = true := decide_eq_true hx0
        rw [hems, if_pos rfl] at hce
        obtain ⟨p, d, nn1, b1, b2, b3, b4, b5, b6, g1, w1, seen1, wave1, q1, q2, q3, q4, q5, q6, q7, q8, q9, q10, q11, q12, q13, q14, q15⟩ := child_both (F := F) (n := n) (fs := fs) (a1 := a1) (a2 := a2) (a3 := a3) (a4 := a4) (a5 := a5) (a6 := a6) (e1 := e1) (e2 := e2) (e3 := e3) (e4 := e4) (e5 := e5) (e6 := e6) (seen := seen) (wave := wave) w hF hN h0 hmv hnear hed hB hM hW h hx0 (show nc < 8000 by omega) hnn hL hg
        rw [if_pos hx0, if_pos hx0, bd1_e, if_neg (show ¬ (1 : Int32) = 0 by decide), q1, bd14_e, q2, bd10_e, show vp_nar .byte (0 : Int32) = 0 from by decide, upd_back (show ms c = 0 by rw [(hB c h).2]; exact hx0)]
        obtain ⟨nn', g', Q', A', C', K', P', D', b1', b2', b3', b4', b5', b6', f1, f2, f3, f4, f5, f6, w', seen', wave', r1, r2, r3, r4, r5, r6, r7, r8, r9, r10, r11, r12, r13, r14⟩ := ih (c + 1) (nc + 1) nn1 g1 (un Q nc c) (un A nc n) C (un K nc 0) (un P nc p) (un D nc d) b1 b2 b3 b4 b5 b6 (upd e1 nc (nI c)) (upd e2 nc (nI n)) (upd e3 nc (nI p)) (upd e4 nc (nI d)) (upd e5 nc (-1)) (upd e6 nc 0) seen1 wave1 w1 (by omega) (by omega) (by omega) q6 q4 (by omega) (hx.more (by omega) q7 q8 q9 q10 q11 q12 q13) (hm.more (by omega) (fun i hi => ⟨u_n (by omega), u_n (by omega), u_n (by omega), u_n (by omega), u_n (by omega), u_n (by omega)⟩) u_s u_s u_s u_s u_s u_s) (by
          intro i i1 i2
          by_cases e : i = nc
          · subst e
            rw [un_s, un_s, un_s, un_s, un_s]
            exact ⟨rfl, rfl, h, hx0, q3⟩
          · rw [un_n e, un_n e, un_n e, un_n e, un_n e]
            exact hK i i1 (by omega))
        refine ⟨nn', g', Q', A', C', K', P', D', b1', b2', b3', b4', b5', b6', f1, f2, f3, f4, f5, f6, w', seen', wave', r1, r2, r3, by omega, r5, by omega, by omega, r8, r9, r10, ?_, ?_, ?_, ?_⟩
        · intro i hi
          obtain ⟨t1, t2, t3, t4, t5, t6⟩ := r11 i (by omega)
          have e : i ≠ nc := by omega
          rw [un_n e] at t1 t2 t4 t5 t6
          exact ⟨t1, t2, t3, t4, t5, t6⟩
        · exact r12.trans (q7 n (by omega)).2.2.2.2.1
        · exact r13.trans (q7 n (by omega)).2.2.2.2.2
        · exact r14.trans (u_n (by omega))
      · have hems : em xs c = false := decide_eq_false hx0
        rw [hems, if_neg (by decide)] at hce
        rw [if_neg hx0, if_neg hx0, bd1_e, if_pos rfl]
        exact ih (c + 1) nc nn g Q A C K P D a1 a2 a3 a4 a5 a6 e1 e2 e3 e4 e5 e6 seen wave w (by omega) (by omega) (by omega) hnn hL hg hx hm hK
    · have : c = N * N := by omega
      subst this
      rw [z_le (Nat.le_refl _) (by omega), z_le (Nat.le_refl _) (by omega)]
      subst hnc
      exact ⟨nn, g, Q, A, C, K, P, D, a1, a2, a3, a4, a5, a6, e1, e2, e3, e4, e5, e6, w, seen, wave, rfl, rfl, hL, Nat.le_refl _, hnn, Nat.le_refl _, Nat.le_refl _, hx, hm, hK, fun i hi => ⟨rfl, rfl, rfl, rfl, rfl, rfl⟩, rfl, rfl, rfl⟩
