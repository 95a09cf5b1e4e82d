/-! PURE: the checker's loop, on both sides -/
theorem won_off {N c : Nat} {st : Nat → Int32} {s s' : Int32} (hne : ¬ s' = s) (h : Won N (upd st c s) s') : Won N st s' := by
  obtain ⟨a, b, h1, h2, h3, h4, h5⟩ := h
  have off : ∀ x, upd st c s x = s' → x ≠ c := by
    intro x hx e
    subst e
    rw [u_s] at hx
    exact hne hx.symm
  refine ⟨a, b, h1, ?_, h3, ?_, h5⟩
  · rw [u_n (off a h2)] at h2
    exact h2
  · have := h4.ind (fun x => Ch N st a x ∧ upd st c s x = s') ⟨Ch.rf, h2⟩ (by
      intro x y hx ⟨p1, p2⟩ ⟨k, hk, q1, q2⟩
      have hy : upd st c s y = s' := q2.trans p2
      refine ⟨p1.step ⟨k, hk, q1, ?_⟩, hy⟩
      rw [u_n (off y hy), u_n (off x p2)] at q2
      exact q2)
    exact this.1
/-- a play on a board that nobody has won -/
theorem pw_both {F N c : Nat} {xs ms near ed m z seen wave : Nat → Int32} {mv : Int32} (hF : 200 < F) (hN : N < 12) (h0 : 0 < N) (hmv : mv = 1 ∨ mv = 2) (hnear : ∀ c, c < N * N → ∀ k, k < 6 → near (6 * c + k) = nbI N c k) (hed : ∀ c, c < N * N → ed c = edI N c) (hB : BR N xs ms) (hW : NW N xs) :
    ∃ r m' z' r2 w' seen' wave', pm_X0_wins F (N * N) (upd xs c mv) (6 * (N * N)) near (N * N) ed (N * N) m (N * N) z mv = some (r, m', z') ∧ pm_X7_winner F (nI N) (nI (N * N)) 121 (upd ms c mv) 121 seen 121 wave = some (r2, w', seen', wave') ∧ ((r = 1 ∧ r2 = mv) ∨ (r = 0 ∧ r2 = 0 ∧ NW N (upd xs c mv))) := by
  have hB' : BR N (upd xs c mv) (upd ms c mv) := hB.put (side_s3 hmv)
  obtain ⟨r, m', z', q1, q2⟩ := wins_ok (F := F) (st := upd xs c mv) (m := m) (z := z) hF hN hmv hnear hed
  obtain ⟨r2, w', seen', wave', p1, p2⟩ := mwinner_ok (F := F) (st := upd ms c mv) (seen := seen) (wave := wave) hF hN h0
  have hw : ∀ s, Won N (upd ms c mv) s ↔ Won N (upd xs c mv) s := fun s => won_iff hN (fun i hi => (hB' i hi).2)
  rw [hw 1, hw 2] at p2
  have o1 : ∀ s, (s = 1 ∨ s = 2) → ¬ s = mv → ¬ Won N (upd xs c mv) s := by
    intro s hs hne h
    have := won_off hne h
    rcases hs with rfl | rfl
    · exact hW.1 this
    · exact hW.2 this
  refine ⟨r, m', z', r2, _, seen', wave', q1, p1, ?_⟩
  rcases q2 with ⟨rfl, q2⟩ | ⟨rfl, q2⟩
  · refine Or.inl ⟨rfl, ?_⟩
    rcases p2 with ⟨rfl, a⟩ | ⟨rfl, a, b⟩ | ⟨rfl, a, b⟩
    · rcases hmv with rfl | rfl
      · rfl
      · exact absurd a (o1 1 (Or.inl rfl) (by decide))
    · rcases hmv with rfl | rfl
      · exact absurd q2 a
      · rfl
    · rcases hmv with rfl | rfl
      · exact absurd q2 a
      · exact absurd q2 b
  · refine Or.inr ⟨rfl, ?_⟩
    rcases p2 with ⟨rfl, a⟩ | ⟨rfl, a, b⟩ | ⟨rfl, a, b⟩
    · rcases hmv with rfl | rfl
      · exact absurd a q2
      · exact absurd a (o1 1 (Or.inl rfl) (by decide))
    · rcases hmv with rfl | rfl
      · exact absurd b (o1 2 (Or.inr rfl) (by decide))
      · exact absurd b q2
    · exact ⟨rfl, a, b⟩
theorem mv_ne {a b : Int32} (ha : a = 1 ∨ a = 2) (hb : b = 1 ∨ b = 2) (h : ¬ a = b) : a = 3 - b := by
  rcases ha with rfl | rfl <;> rcases hb with rfl | rfl
  · exact absurd rfl h
  · decide
  · decide
  · exact absurd rfl h
theorem mv_eq {a b : Int32} (ha : a = 1 ∨ a = 2) (hb : b = 1 ∨ b = 2) (h : a = b) : ¬ a = 3 - b := by
  subst h
  rcases ha with rfl | rfl <;> decide
theorem side_n0 {b : Int32} (hb : b = 1 ∨ b = 2) : ¬ (0 : Int32) = b ∧ ¬ (0 : Int32) = 3 - b := by
  rcases hb with rfl | rfl <;> decide
/-- an entry is played: what is wrong with it -/
theorem wa_both {F N tc tn nn e c : Nat} {xs ms near ed m z xa xc mc bh ne he be seen wave : Nat → Int32} (sd' mv o : Int32) (hF : 9000 < F) (hN : N < 12) (h0 : 0 < N) (hmv : mv = 1 ∨ mv = 2) (hsd : sd' = 1 ∨ sd' = 2) (hnear : ∀ c, c < N * N → ∀ k, k < 6 → near (6 * c + k) = nbI N c k) (hed : ∀ c, c < N * N → ed c = edI N c) (hB : BR N xs ms) (hW : NW N xs) (h8 : tc ≤ 8000) (htn : tc ≤ tn) (htn2 : tn ≤ 8000) (hnn : tc ≤ nn) (hnn2 : nn ≤ 8000) (hl : NB tc xc mc ne be) (hK : LK tc xa bh ne) (hh : ∀ s, s ≤ tc → he s = bh s) (he1 : e < tc) (hc : c < N * N) (hx : xc e = nI c) (hx0 : xs c = 0) (ho : ((3 - mv) = sd' ∧ o = 1) ∨ (¬ (3 - mv) = sd' ∧ o = 0)) :
    ∃ r m' z' w' seen' wave', pm_X1_wrongAt F sd' mv (N * N) xs (6 * (N * N)) near (N * N) ed (N * N) m (N * N) z tn xc (nn + 1) bh nn ne (nI e) = some (r, 3 - mv, upd xs c mv, m', z') ∧ pm_X7_wrong F (nI N) (nI (N * N)) 121 (upd ms c mv) 8000 mc 121 seen 121 wave 8001 he 8000 be (nI e) sd' o = some (r, w', seen', wave') ∧ (∃ k, r = nI k ∧ k ≤ 5) ∧ (r = 0 → bh (e + 1) = -1 ∨ NW N (upd xs c mv)) := by
  have hn := sq_le hN
  have hB' : BR N (upd xs c mv) (upd ms c mv) := hB.put (side_s3 hmv)
  obtain ⟨r1, m1, z1, r2, w1, seen1, wave1, q1, q2, q3⟩ := pw_both (F := F) (c := c) (m := m) (z := z) (seen := seen) (wave := wave) (by omega) hN h0 hmv hnear hed hB hW
  rw [pm_X1_wrongAt, pm_X7_wrong, z_bd (show e < tn by omega) (by omega), z_cl (show e < 2 ^ 31 by omega), hx, isEmpty_ok hc (by omega), if_pos hx0, bd1_e, if_neg (show ¬ (1 : Int32) = 0 by decide), put_ok hc (by omega), bd1_e, pm_X6_otherSide, bd1_e, q1, q2, bd3_e, bd4_e, z_1, z_bd (show e + 1 < nn + 1 by omega) (by omega), z_bd (show e + 1 < 8001 by omega) (by omega), z_cl (show e + 1 < 2 ^ 31 by omega), hh (e + 1) he1]
  rcases q3 with ⟨rfl, rfl⟩ | ⟨rfl, rfl, q4⟩
  · rw [if_neg (show ¬ (1 : Int32) = 0 by decide)]
    by_cases hs : r2 = sd'
    · rw [if_pos hs, if_neg (mv_eq hmv hsd hs), if_pos hs]
      rcases hK.1 (e + 1) he1 with q | ⟨h, h1, h2, h3⟩
      · rw [q, if_pos rfl, if_pos (show (-1 : Int32) < 0 by decide)]
        exact ⟨0, m1, z1, w1, seen1, wave1, rfl, rfl, nI_lit 0 (by decide) (by omega), fun _ => Or.inl rfl⟩
      · rw [h2, if_neg (nI_m1 (show h < 2 ^ 31 by omega)), if_neg (nI_neg (show h < 2 ^ 31 by omega))]
        exact ⟨2, m1, z1, w1, seen1, wave1, rfl, rfl, nI_lit 2 (by decide) (by omega), fun q => absurd q (by decide)⟩
    · rw [if_neg hs, if_pos (mv_ne hmv hsd hs)]
      exact ⟨5, m1, z1, w1, seen1, wave1, rfl, rfl, nI_lit 5 (by decide) (by omega), fun q => absurd q (by decide)⟩
  · obtain ⟨r, m', w', seen', wave', p1, p2, p3⟩ := wb_both (F := F) (m := m1) (seen := seen1) (wave := wave1) sd' (3 - mv) o (nI e) w1 hF hN hB' h8 htn htn2 hnn hnn2 hl hK hh (show e + 1 ≤ tc by omega) (z_1 e) ho
    rw [if_pos rfl, if_neg (side_n0 hsd).2, if_neg (side_n0 hsd).1, p1, p2, bd2_e, bd4_e]
    exact ⟨r, m', z1, w', seen', wave', rfl, rfl, p3, fun _ => Or.inr q4⟩
/-- the entries that were visited -/
def VP (tc : Nat) (xa : Nat → Int32) (V : Nat → Prop) (L : List Nat) : Prop := (∀ j, j < tc → V j → ∀ a, a < tc → xa j = nI a → V a) ∧ (∀ a, a ∈ L → ∀ j, j < tc → a < j → xa j = xa a → ¬ V j) ∧ ∀ a, a ∈ L → V a
def VI (tc : Nat) (xa : Nat → Int32) (V : Nat → Prop) (l : List Nat) (e : Nat) : Prop := ¬ V e ∧ (∀ j, j < tc → V j → ∀ a, a < tc → xa j = nI a → V a) ∧ (∀ a, a ∈ e :: l → ∀ j, j < tc → a < j → xa j = xa a → ¬ V j) ∧ ∀ a, a ∈ l → V a
theorem PP_no {xa : Nat → Int32} {a : Nat} : ∀ {l : List Nat}, PP xa l (-1) → ¬ a ∈ l := by
  intro l h ha
  cases l with
  | nil => cases ha
  | cons q l => exact absurd h.1.symm (nI_m1 (by have := h.2.1; omega))
theorem VI.visit {tc tn e : Nat} {xa xc ma mc : Nat → Int32} {V : Nat → Prop} {l : List Nat} (h : TR tc tn xa xc ma mc) (he : e < tc) (hP : PP xa l (xa e)) (hV : VI tc xa V l e) : VP tc xa (fun j => V j ∨ j = e) (e :: l) := by
  have h8 := h.1
  obtain ⟨v1, v2, v3, v4⟩ := hV
  refine ⟨?_, ?_, ?_⟩
  · rintro j hj (hv | rfl) a ha e1
    · exact Or.inl (v2 j hj hv a ha e1)
    · left
      rw [e1] at hP
      cases l with
      | nil => exact absurd hP (nI_m1 (by omega))
      | cons q l =>
        have : a = q := (nI_eq (by omega) (by have := hP.2.1; omega)).mp hP.1
        subst this
        exact v4 a (List.mem_cons_self ..)
  · rintro a ha j hj haj e1 (hv | rfl)
    · exact v3 a ha j hj haj e1 hv
    · cases ha with
      | head => omega
      | tail _ ha =>
        rcases h.2.2.2.2 j hj with r | ⟨r, r1, r2⟩
        · rw [r] at hP
          exact PP_no hP ha
        · have hP' := hP
          rw [r2] at hP'
          have hle := PP_le h l r (by omega) hP' a ha
          rcases h.2.2.2.2 a (by omega) with s | ⟨s, s1, s2⟩
          · rw [s, r2] at e1
            exact nI_m1 (by omega) e1
          · rw [s2, r2] at e1
            have := (nI_eq (by omega) (by omega)).mp e1
            omega
  · intro a ha
    cases ha with
    | head => exact Or.inr rfl
    | tail _ ha => exact Or.inl (v4 a ha)
theorem VP.heir {tc tn e h : Nat} {xa xc ma mc : Nat → Int32} {V : Nat → Prop} {l : List Nat} (hT : TR tc tn xa xc ma mc) (he : e < tc) (hh : h < tc) (hx : xa h = nI e) (hV : VP tc xa (fun j => V j ∨ j = e) (e :: l)) (hnV : ¬ V e) (hcl : ∀ j, j < tc → V j → ∀ a, a < tc → xa j = nI a → V a) : VI tc xa (fun j => V j ∨ j = e) (e :: l) h := by
  have h8 := hT.1
  have heh : ∀ j, j < tc → xa j = nI e → e < j := by
    intro j hj e1
    rcases hT.2.2.2.2 j hj with r | ⟨r, r1, r2⟩
    · rw [r] at e1; exact absurd e1.symm (nI_m1 (by omega))
    · rw [r2] at e1
      have := (nI_eq (by omega) (by omega)).mp e1
      omega
  have key : ∀ j, j < tc → xa j = nI e → ¬ (V j ∨ j = e) := by
    rintro j hj e1 (hv | rfl)
    · exact hnV (hcl j hj hv e he e1)
    · have := heh j hj e1
      omega
  refine ⟨key h hh hx, hV.1, ?_, hV.2.2⟩
  intro a ha j hj haj e1
  cases ha with
  | head => exact key j hj (e1.trans hx)
  | tail _ ha => exact hV.2.1 a ha j hj haj e1
theorem VP.next {tc q j : Nat} {xa : Nat → Int32} {V : Nat → Prop} {L pre l : List Nat} (hj : j < tc) (hqj : q < j) (hx : xa j = xa q) (hL : L = pre ++ q :: l) (hV : VP tc xa V L) : VI tc xa V l j := by
  subst hL
  have mq : q ∈ pre ++ q :: l := List.mem_append_right _ (List.mem_cons_self ..)
  have ml : ∀ a, a ∈ l → a ∈ pre ++ q :: l := fun a ha => List.mem_append_right _ (List.mem_cons_of_mem _ ha)
  refine ⟨hV.2.1 q mq j hj hqj hx, hV.1, ?_, fun a ha => hV.2.2 a (ml a ha)⟩
  intro a ha i hi hai e1
  cases ha with
  | head => exact hV.2.1 q mq i hi (by omega) (e1.trans hx)
  | tail _ ha => exact hV.2.1 a (ml a ha) i hi hai e1
theorem upd_back {st : Nat → Int32} {c : Nat} {s : Int32} (h : st c = 0) : upd (upd st c s) c 0 = st := by
  funext i
  by_cases e : i = c
  · subst e; rw [u_s, h]
  · rw [u_n e, u_n e]
theorem judge_L {F N tc tn nn : Nat} {near ed xa xc ma mc bh ne he be base : Nat → Int32} (sd' : Int32) (hF : 9000 < F) (hN : N < 12) (h0 : 0 < N) (hsd : sd' = 1 ∨ sd' = 2) (hnear : ∀ c, c < N * N → ∀ k, k < 6 → near (6 * c + k) = nbI N c k) (hed : ∀ c, c < N * N → ed c = edI N c) (hT : TR tc tn xa xc ma mc) (hnn : tc ≤ nn) (hnn2 : nn ≤ 8000) (hl : NB tc xc mc ne be) (hK : LK tc xa bh ne) (hh : ∀ s, s ≤ tc → he s = bh s) :
    ∀ k n e (l : List Nat) (V : Nat → Prop) (en mv wv : Int32) (xs ms m z seen wave wave2 : Nat → Int32), e < tc → tc + 4 < n + k → VI tc xa V l e → cnt (fun j => cl (V j)) tc = n → PP xa l (xa e) → WV wave2 l → PI N tc mc base l ms → NW N ms → BR N xs ms → (mv = 1 ∨ mv = 2) →
    ∃ en' wr mv' xs' m' z' told l' wv' ms' seen' wave' wave2', pm_X1_judge_L34 F (N * N) (6 * (N * N)) near (N * N) ed (N * N) (N * N) tn xa tn xc sd' (nn + 1) bh nn ne k en 0 (nI e) (nI n) mv xs m z = some (en', wr, mv', xs', m', z') ∧ pm_X7_check_L66 F (nI N) (nI (N * N)) 121 8000 mc 121 121 8001 8000 122 sd' he be k mv 0 (nI e) (nI l.length) wv ms seen wave wave2 = some (told, nI (List.length l'), wv', ms', seen', wave', wave2') ∧ PI N tc mc base l' ms' ∧ WV wave2' l' ∧ told = if wr = 0 then 0 else wr + 16 * (en' + 1) := by
  have hn := sq_le hN
  have h8 := hT.1
  have htn := hT.2.1
  have htn2 := (LL_le hT.2.2.1).2
  have e8 : (8000 : Int32) = nI 8000 := by decide
  intro k
  induction k with
  | zero =>
    intro n e l V en mv wv xs ms m z seen wave wave2 he1 hk
    intro _ hcn
    have := cnt_le (fun j => cl (V j)) tc
    omega
  | succ k ih =>
    intro n e l V en mv wv xs ms m z seen wave wave2 he1 hk hV hcn hP hWv hI hW hB hmv
    have hlen := hI.len
    have hcn2 : cnt (fun j => cl (V j ∨ j = e)) tc = n + 1 := by
      rw [← hcn]
      refine cnt_upd he1 (cl_f hV.1) (cl_t (Or.inr rfl)) (fun j _ hj => cl_e ⟨fun q => ?_, Or.inl⟩)
      rcases q with q | q
      · exact q
      · exact absurd q hj
    have hn8 := cnt_le (fun j => cl (V j ∨ j = e)) tc
    rw [hcn2] at hn8
    have hWx : NW N xs := hW.congr hN (fun i hi => ((hB i hi).2).symm)
    obtain ⟨k', rfl⟩ : ∃ k', k = k' + 1 := ⟨k - 1, by omega⟩
    have hbn : ∀ {a : Option (Int32 × Int32 × Int32 × (Nat → Int32) × (Nat → Int32) × (Nat → Int32) × (Nat → Int32))}, True := trivial
    rw [pm_X1_judge_L34, pm_X7_check_L66, e8, z_gt (show n < 8000 by omega) (by omega), if_pos (show (0 : Int32) = 0 from rfl), if_pos (show (0 : Int32) = 0 from rfl), if_neg (nI_m1 (show e < 2 ^ 31 by omega)), if_neg (nI_neg (show e < 2 ^ 31 by omega)), z_bd (show e < 8000 by omega) (by omega), z_cl (show e < 2 ^ 31 by omega), (hl e he1).1]
    rcases free_both (F := F) (xc e) hN hB with ⟨c, hc, e1, e2, e3, e4⟩ | ⟨e3, e4⟩
    · have hcell := hB c hc
      have hms0 : ms c = 0 := by rw [hcell.2]; exact e2
      have hByte : vp_nar .byte mv.toInt8.toInt32 = mv := s3_byte (side_s3 hmv)
      have hempty : 0 < cnt (em ms) (N * N) := cnt_pos hc (decide_eq_true hms0)
      obtain ⟨o, ho1, ho2⟩ : ∃ o : Int32, (if (3 - mv) = sd' then some (1 : Int32) else some 0) = some o ∧ (((3 - mv) = sd' ∧ o = 1) ∨ (¬ (3 - mv) = sd' ∧ o = 0)) := by
        by_cases q : (3 - mv) = sd'
        · exact ⟨1, if_pos q, Or.inl ⟨q, rfl⟩⟩
        · exact ⟨0, if_neg q, Or.inr ⟨q, rfl⟩⟩
      obtain ⟨r, m', z', w', seen', wave', q1, q2, q3, q4⟩ := wa_both (F := F) (m := m) (z := z) (seen := seen) (wave := wave) sd' mv o hF hN h0 hmv hsd hnear hed hB hWx h8 htn htn2 hnn hnn2 hl hK hh he1 hc e1 e2 ho2
      have hI' : PI N tc mc base (e :: l) (upd ms c mv) := by
        refine ⟨he1, c, hc, by rw [(hl e he1).1, e1], ?_, ?_, ?_⟩
        · rw [u_s]; rcases hmv with rfl | rfl <;> decide
        · rw [upd_back hms0]; exact hW
        · rw [upd_back hms0]; exact hI
      have hW2 : WV (upd wave2 l.length (nI e)) (e :: l) := ⟨u_s, hWv.congr (fun i hi => u_n (by omega))⟩
      have hVP := hV.visit hT he1 hP
      have hB' : BR N (upd xs c mv) (upd ms c mv) := hB.put (side_s3 hmv)
      have hPe : PP xa (e :: l) (nI e) := ⟨rfl, by omega, hP⟩
      rw [e4, bd1_e, if_neg (show ¬ (1 : Int32) = 0 by decide), e1, z_bd (show c < 121 by omega) (by omega), z_bd (show l.length < 122 by omega) (by omega), ho1, bd1_e, z_cl (show c < 2 ^ 31 by omega), hByte, q1, bd5_e, q2, bd4_e, z_1, z_1, z_1, z_cl (show l.length < 2 ^ 31 by omega)]
      by_cases hr : r = 0
      · subst hr
        rw [if_pos rfl, if_pos rfl, z_bd (show e + 1 < nn + 1 by omega) (by omega), z_bd (show e + 1 < 8001 by omega) (by omega), z_cl (show e + 1 < 2 ^ 31 by omega), hh (e + 1) he1]
        rcases hK.1 (e + 1) he1 with q | ⟨h, h1, h2, h3⟩
        · rw [q, if_pos rfl, pm_X1_climbToNext]
          obtain ⟨nxt, mv', xs', ms', l', nx8, r1, r2, r3, r4, r5, r6, r7⟩ := climb_both (F := F) (v := wave2) (X4 := nI e) (X5 := nI l.length) (base := base) hN h8 htn htn2 hnn hnn2 hl (fun i hi j hj hjt => by
            rcases hK.2 i hi with q | ⟨j', a1, a2, a3, a4⟩
            · rw [q] at hj; exact absurd hj.symm (nI_m1 (by omega))
            · rw [a3] at hj
              have := (nI_eq (by omega) (by omega)).mp hj
              subst this; exact a4) (e :: l) F 0 (nI e) (-1) (3 - mv) (upd xs c mv) (upd ms c mv) (by show l.length + 1 < F; omega) (by show 0 + (l.length + 1) ≤ _; omega) hPe (by rw [z_cl (show l.length < 2 ^ 31 by omega)]; exact hW2) hI' hB' (other_ok hmv) (by decide)
          rw [z_cl (show l.length < 2 ^ 31 by omega)] at r5
          rw [show nI 0 = (0 : Int32) from nI_0] at r1
          rw [r1, bd3_e, bd3_e, show nI (l.length + 1) = nI (e :: l).length from rfl, r2, bd4_e]
          rcases r7 with ⟨rfl, r7, rfl⟩ | ⟨qq, j, pre, a1, a2, rfl, rfl, a5, a6, a7, a8, a9⟩
          · refine ⟨nI e, 0, mv', xs', m', z', 0, [], w', ms', seen', wave', _, ?_, ?_, r4, r5, by rw [if_pos rfl]⟩
            · rw [pm_X1_judge_L34, if_pos (show (0 : Int32) = 0 from rfl), if_pos (show (-1 : Int32) = -1 from rfl)]
              split <;> rfl
            · rw [pm_X7_check_L66, if_pos r7]
          · exact ih (n + 1) j l' _ _ mv' w' xs' ms' m' z' seen' wave' _ a2 (by omega) (hVP.next a2 a5 a6 a9) hcn2 a7 r5 r4 a8 r3 r6
        · have hx : xa h = nI e := by rw [← z_1] at h3; exact add1_inj h3
          have hNW : NW N (upd xs c mv) := by
            rcases q4 rfl with q | q
            · rw [h2] at q; exact absurd q (nI_m1 (by omega))
            · exact q
          have sk : pm_X7_check_L185_2 F 121 8000 mc 8000 122 be (nI e) (nI l.length) wave2 F (3 - mv) (nI (l.length + 1)) (nI h) (upd ms c mv) = some (3 - mv, nI (l.length + 1), nI h, upd ms c mv) := by
            obtain ⟨F', rfl⟩ : ∃ F', F = F' + 1 := ⟨F - 1, by omega⟩
            rw [pm_X7_check_L185_2, if_pos (nI_pos' (show h < 2 ^ 31 by omega))]
          rw [h2, if_neg (nI_m1 (show h < 2 ^ 31 by omega)), sk, bd4_e]
          exact ih (n + 1) h (e :: l) _ _ (3 - mv) w' (upd xs c mv) (upd ms c mv) m' z' seen' wave' _ h1 (by omega) (hVP.heir hT he1 h1 hx hV.1 hV.2.1) hcn2 (by rw [hx]; exact hPe) hW2 hI' (hNW.congr hN (fun i hi => (hB' i hi).2)) hB' (other_ok hmv)
      · rw [if_neg hr, if_neg hr]
        obtain ⟨rk, rk1, rk2⟩ := q3
        refine ⟨nI e, r, 3 - mv, upd xs c mv, m', z', r + 16 * nI (e + 1), e :: l, w', upd ms c mv, seen', wave', _, ?_, ?_, hI', hW2, by rw [if_neg hr, z_1]⟩
        · rw [pm_X1_judge_L34, if_neg hr]
          split <;> rfl
        · rw [pm_X7_check_L66, if_neg (nI_neg (show e < 2 ^ 31 by omega)), if_neg (by
            rw [rk1, show (16 : Int32) = nI 16 from by decide, pk_mul, nI_add]
            exact nI_ne0 (by omega) (by omega))]
          rfl
    · have hbad : pm_X1_wrongAt F sd' mv (N * N) xs (6 * (N * N)) near (N * N) ed (N * N) m (N * N) z tn xc (nn + 1) bh nn ne (nI e) = some (1, mv, xs, m, z) := by
        rw [pm_X1_wrongAt, z_bd (show e < tn by omega) (by omega), z_cl (show e < 2 ^ 31 by omega), e3, bd1_e, if_pos rfl]
      rw [hbad, bd5_e, e4, bd1_e, if_pos rfl, if_neg (show ¬ (1 : Int32) = 0 by decide), z_1, z_1]
      refine ⟨nI e, 1, mv, xs, m, z, 1 + 16 * nI (e + 1), l, wv, ms, seen, wave, wave2, ?_, ?_, hI, hWv, by rw [if_neg (by decide), z_1]⟩
      · rw [pm_X1_judge_L34, if_neg (show ¬ (1 : Int32) = 0 by decide)]
        split <;> rfl
      · rw [pm_X7_check_L66, if_neg (nI_neg (show e < 2 ^ 31 by omega)), if_neg (by
          rw [show (1 : Int32) = nI 1 from by decide, show (16 : Int32) = nI 16 from by decide, pk_mul, nI_add]
          exact nI_ne0 (by omega) (by omega))]
