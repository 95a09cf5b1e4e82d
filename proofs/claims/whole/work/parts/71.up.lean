/-! PURE: the way up, on both sides -/
def pr (k : Nat) (P : Nat → Nat) (c m : Nat) : Nat := if k % 2 = 0 then P (amn P c m) else cap (sm P c m)
def dr (k : Nat) (D : Nat → Nat) (c m : Nat) : Nat := if k % 2 = 0 then cap (sm D c m) else D (amn D c m)
theorem reck_TN {N nc i : Nat} {base : Nat → Int32} {fs : Int32} {Q A C K P D b : Nat → Nat} {R R' : Nat → Prop} {l : List Nat} (h : TI N nc base fs Q A C K P D b) (hn : TN nc A C K P D b R) (hi : i < nc) (hp : PT A l i) (hk : 0 < K i) (hkids : ∀ j, C i ≤ j → j < C i + K i → ¬ R j) (hpar : i = 0 ∨ R' (A i)) (hRR : ∀ j, ¬ R' j → j ≠ i → ¬ R j) :
    TI N nc base fs Q A C K (un P i (pr l.length P (C i) (K i))) (un D i (dr l.length D (C i) (K i))) b ∧ TN nc A C K (un P i (pr l.length P (C i) (K i))) (un D i (dr l.length D (C i) (K i))) b R' := by
  have hb := b_le h
  have h' := h
  obtain ⟨h0, h1, h2, h3, h4, h5, h6, h7⟩ := h
  obtain ⟨c1, c2, c3⟩ := h2 i hi hk
  have ht : ∀ j, j < K i → tri (P (C i + j)) (D (C i + j)) (b (C i + j)) := fun j hj => (hn ((C i + j) :: l) (C i + j) (by omega) ⟨rfl, by omega, by rw [c3 _ (by omega) (by omega)]; exact hp⟩ (hkids _ (by omega) (by omega))).1
  have hbi := hb i hi
  have hbs := (h4 i hi).2 hk
  have kP : ∀ x j, j < K i → un P i x (C i + j) = P (C i + j) := fun x j hj => un_n (by omega)
  have kD : ∀ x j, j < K i → un D i x (C i + j) = D (C i + j) := fun x j hj => un_n (by omega)
  refine ⟨⟨h0, h1, h2, ?_, h4, h5, ?_, h7⟩, ?_⟩
  · intro j j1 j2
    have e : j ≠ i := fun e => by subst e; omega
    rw [un_n e, un_n e]
    exact h3 j j1 j2
  · intro l' j j1 j2 j3
    refine h6 l' j j1 j2 (fun q => ?_)
    have e : j ≠ i := fun e => by subst e; omega
    have := j3 q
    rw [un_n e] at this
    exact this
  · intro l' j j1 j2 j3
    by_cases e : j = i
    · subst e
      have el : l' = l := PT_uniq j2 hp
      subst el
      obtain ⟨p1, p2⟩ := amn_in (X := P) (c := C j) (K j) hk
      obtain ⟨d1, d2⟩ := amn_in (X := D) (c := C j) (K j) hk
      unfold RKd
      rw [un_s, un_s]
      constructor
      · unfold pr dr
        by_cases hpa : l'.length % 2 = 0
        · rw [if_pos hpa, if_pos hpa]
          exact reck_tri hk ht hbs (by omega)
        · rw [if_neg hpa, if_neg hpa]
          exact tri_sw (reck_tri hk (fun j hj => tri_sw (ht j hj)) hbs (by omega))
      · intro _
        rw [amn_congr (K j) (kP _), amn_congr (K j) (kD _), sm_congr (K j) (kP _), sm_congr (K j) (kD _), un_n (show amn P (C j) (K j) ≠ j by omega), un_n (show amn D (C j) (K j) ≠ j by omega)]
        unfold pr dr
        constructor
        · intro hpa
          rw [if_pos hpa, if_pos hpa]
          exact ⟨rfl, rfl⟩
        · intro hpa
          rw [if_neg hpa, if_neg hpa]
          exact ⟨rfl, rfl⟩
    · obtain ⟨r1, r2⟩ := hn l' j j1 j2 (hRR j j3 e)
      unfold RKd
      rw [un_n e, un_n e]
      refine ⟨r1, fun j4 => ?_⟩
      obtain ⟨a1, a2, a3⟩ := h2 j j1 j4
      have off : ∀ t, t < K j → C j + t ≠ i := by
        intro t ht' q
        have : A i = j := by rw [← q]; exact a3 _ (by omega) (by omega)
        rcases hpar with hpar | hpar
        · omega
        · rw [this] at hpar
          exact j3 hpar
      obtain ⟨p1, p2⟩ := amn_in (X := P) (c := C j) (K j) j4
      obtain ⟨d1, d2⟩ := amn_in (X := D) (c := C j) (K j) j4
      have o1 : amn P (C j) (K j) ≠ i := by
        have := off (amn P (C j) (K j) - C j) (by omega)
        rw [show C j + (amn P (C j) (K j) - C j) = amn P (C j) (K j) by omega] at this
        exact this
      have o2 : amn D (C j) (K j) ≠ i := by
        have := off (amn D (C j) (K j) - C j) (by omega)
        rw [show C j + (amn D (C j) (K j) - C j) = amn D (C j) (K j) by omega] at this
        exact this
      rw [amn_congr (K j) (fun t ht' => un_n (off t ht')), amn_congr (K j) (fun t ht' => un_n (off t ht')), sm_congr (K j) (fun t ht' => un_n (off t ht')), sm_congr (K j) (fun t ht' => un_n (off t ht')), un_n o1, un_n o2]
      exact r2 j4
theorem RW.num {nc i p d : Nat} {cel ah pf df ch mn : Nat → Int32} {Q A C K P D : Nat → Nat} (h : RW nc cel ah pf df ch mn Q A C K P D) : RW nc cel ah (upd pf i (nI p)) (upd df i (nI d)) ch mn Q A C K (un P i p) (un D i d) := by
  intro j hj
  obtain ⟨a1, a2, a3, a4, a5, a6⟩ := h j hj
  by_cases e : j = i
  · subst e
    rw [u_s, u_s, un_s, un_s]
    exact ⟨a1, a2, rfl, rfl, a5, a6⟩
  · rw [u_n e, u_n e, un_n e, un_n e]
    exact ⟨a1, a2, a3, a4, a5, a6⟩
theorem un_id {f : Nat → Nat} {i x : Nat} (h : x = f i) : un f i x = f := by
  funext j
  unfold un
  by_cases e : j = i
  · rw [if_pos e, h, e]
  · rw [if_neg e]
/-- both sides reckon a node alike -/
theorem reck_both {F N nc nn i : Nat} {base : Nat → Int32} {fs : Int32} {Q A C K P D b : Nat → Nat} {R : Nat → Prop} {l : List Nat} {xcel xah xpf xdf xch xmn mcel mah mpf mdf mch mmn : Nat → Int32} (hF : 9000 < F) (hfs : fs = 1 ∨ fs = 2) (h : TI N nc base fs Q A C K P D b) (hn : TN nc A C K P D b R) (hx : RW nc xcel xah xpf xdf xch xmn Q A C K P D) (hm : RW nc mcel mah mpf mdf mch mmn Q A C K P D) (hnn : nc ≤ nn) (hnn2 : nn ≤ 8000) (hi : i < nc) (hp : PT A l i) (hk : 0 < K i) (hkids : ∀ j, C i ≤ j → j < C i + K i → ¬ R j) :
    pm_X4_reckon F fs (sdl fs l.length) nn xpf nn xdf nn xch nn xmn (nI i) = some (upd xpf i (nI (pr l.length P (C i) (K i))), upd xdf i (nI (dr l.length D (C i) (K i)))) ∧ bd1 (if sdl fs l.length = fs then some (1 : Int32) else some 0) (fun o => bd2 (pm_X7_reckon F 8000 mpf 8000 mdf 8000 mch 8000 mmn (nI i) o) fun p d => some (p, d)) = some (upd mpf i (nI (pr l.length P (C i) (K i))), upd mdf i (nI (dr l.length D (C i) (K i)))) := by
  obtain ⟨kx1, kx2, kx3⟩ := kids h hn hx hi hp hk hkids
  obtain ⟨km1, km2, -⟩ := kids h hn hm hi hp hk hkids
  obtain ⟨h0, h1, h2, h3, h4, h5, h6, h7⟩ := h
  obtain ⟨c1, c2, c3⟩ := h2 i hi hk
  obtain ⟨x1, x2, x3, x4, x5, x6⟩ := hx i hi
  obtain ⟨m1, m2, m3, m4, m5, m6⟩ := hm i hi
  rw [if_neg (by omega)] at x5 m5
  obtain ⟨q1, q2⟩ := mreck_ok (F := F) hF (show i < 8000 by omega) m5 m6 hk (by omega) km1 km2
  rw [xreck_ok hF (show i < nn by omega) hnn2 x5 x6 hk (by omega) kx1 kx2]
  unfold pr dr
  by_cases hpa : l.length % 2 = 0
  · have hs : sdl fs l.length = fs := (sdl_fs hfs _).mpr hpa
    rw [if_pos hs, if_pos hs, if_pos hpa, if_pos hpa, bd1_e, q1, bd2_e]
    exact ⟨rfl, rfl⟩
  · have hs : ¬ sdl fs l.length = fs := fun q => hpa ((sdl_fs hfs _).mp q)
    rw [if_neg hs, if_neg hs, if_neg hpa, if_neg hpa, bd1_e, q2, bd2_e]
    exact ⟨rfl, rfl⟩
theorem upR_both {F N nc nn : Nat} {base : Nat → Int32} {fs : Int32} {Q A C K b : Nat → Nat} {xcel xah xch xmn mcel mah mch mmn : Nat → Int32} (hF : 9000 < F) (hN : N < 12) (hfs : fs = 1 ∨ fs = 2) (hnn : nc ≤ nn) (hnn2 : nn ≤ 8000) :
    ∀ (l : List Nat) k k2 up i (P D : Nat → Nat) (xs xpf xdf mpf mdf : Nat → Int32), l.length < k → l.length + 1 < k2 → up + l.length ≤ N * N → i < nc → PT A l i → 0 < K i → TI N nc base fs Q A C K P D b → TN nc A C K P D b (fun j => j = 0 ∨ j ∈ l) → RW nc xcel xah xpf xdf xch xmn Q A C K P D → RW nc mcel mah mpf mdf mch mmn Q A C K P D → BR N xs (sS base fs Q l) →
    ∃ P' D' xs' xpf' xdf' mpf' mdf', bd2 (pm_X4_reckon F fs (sdl fs l.length) nn xpf nn xdf nn xch nn xmn (nI i)) (fun p d => pm_X4_climb_L9 F fs (N * N) nn xcel nn xah nn nn nn xch nn xmn k (nI i) (nI up) (sdl fs l.length) xs p d) = some (fs, xs', xpf', xdf') ∧ pm_X7_grow_L163 F fs 121 8000 8000 8000 8000 8000 8000 1 mcel mah mch mmn k2 (nI i) (sdl fs l.length) (sS base fs Q l) mpf mdf = some (base, mpf', mdf') ∧ TI N nc base fs Q A C K P' D' b ∧ TN nc A C K P' D' b (fun _ => False) ∧ RW nc xcel xah xpf' xdf' xch xmn Q A C K P' D' ∧ RW nc mcel mah mpf' mdf' mch mmn Q A C K P' D' ∧ BR N xs' base := by
  have hsq := sq_le hN
  intro l
  induction l with
  | nil =>
    intro k k2 up i P D xs xpf xdf mpf mdf hk hk2 hup hi hp hK h hn hx hm hB
    have e0 : i = 0 := hp
    subst e0
    have hk0 : 0 < k := hk
    obtain ⟨k', rfl⟩ : ∃ k', k = k' + 1 := ⟨k - 1, by omega⟩
    have hk20 : 0 + 1 < k2 := hk2
    obtain ⟨k2', rfl⟩ : ∃ k2', k2 = k2' + 1 + 1 := ⟨k2 - 2, by omega⟩
    have c0 := (h.2.2.1 0 hi hK).1
    obtain ⟨q1, q2⟩ := reck_both (l := []) hF hfs h hn hx hm hnn hnn2 hi hp hK (fun j j1 j2 q => by
      rcases q with q | q
      · omega
      · cases q)
    obtain ⟨t1, t2⟩ := reck_TN (l := []) (R' := fun _ => False) h hn hi hp hK (fun j j1 j2 q => by
      rcases q with q | q
      · omega
      · cases q) (Or.inl rfl) (fun j _ e q => by
      rcases q with q | q
      · exact e q
      · cases q)
    have a1 := (hx 0 hi).2.1
    have a2 := (hm 0 hi).2.1
    rw [if_pos rfl] at a1 a2
    refine ⟨_, _, xs, _, _, _, _, ?_, ?_, t1, t2, hx.num, hm.num, hB⟩
    · rw [q1, bd2_e, pm_X4_climb_L9, z_bd (show 0 < nn by omega) (by omega), z_cl (show 0 < 2 ^ 31 by omega), a1, if_pos rfl]
      split <;> rfl
    · rw [pm_X7_grow_L163, if_neg (nI_neg (show 0 < 2 ^ 31 by omega)), if_neg (show ¬ (1 : Int32) = 0 by decide), q2, bd2_e, if_pos (show nI 0 ≤ 0 by rw [nI_0]; decide), bd1_e, z_bd (show 0 < 8000 by omega) (by omega), z_cl (show 0 < 2 ^ 31 by omega), a2, pm_X7_grow_L163, if_pos (show (-1 : Int32) < 0 by decide)]
      rfl
  | cons q l ih =>
    intro k k2 up i P D xs xpf xdf mpf mdf hk hk2 hup hi hp hK h hn hx hm hB
    obtain ⟨e0, p1, p2⟩ := hp
    subst e0
    have hp : PT A (i :: l) i := ⟨rfl, p1, p2⟩
    have hk' : l.length + 1 < k := hk
    have hup' : up + (l.length + 1) ≤ N * N := hup
    obtain ⟨k', rfl⟩ : ∃ k', k = k' + 1 := ⟨k - 1, by omega⟩
    have hk2' : l.length + 1 + 1 < k2 := hk2
    obtain ⟨k2', rfl⟩ : ∃ k2', k2 = k2' + 1 := ⟨k2 - 1, by omega⟩
    have h' := h
    obtain ⟨h0, h1, h2, h3, h4, h5, h6, h7⟩ := h
    obtain ⟨c1, c2, c3⟩ := h2 i hi hK
    obtain ⟨g1, g2, g3⟩ := h1 i p1 hi
    have hA : ∀ i, 0 < i → i < nc → A i < i := fun i a b => (h1 i a b).1
    have hle := PT_le hA hi hp
    have hkids : ∀ j, C i ≤ j → j < C i + K i → ¬ (j = 0 ∨ j ∈ i :: l) := fun j j1 j2 q => by
      rcases q with q | q
      · omega
      · have := hle j q; omega
    obtain ⟨q1, q2⟩ := reck_both hF hfs h' hn hx hm hnn hnn2 hi hp hK hkids
    obtain ⟨t1, t2⟩ := reck_TN (R' := fun j => j = 0 ∨ j ∈ l) h' hn hi hp hK hkids (Or.inr (PT_top p2)) (fun j hj e q => by
      rcases q with q | q
      · exact hj (Or.inl q)
      · cases q with
        | head => exact e rfl
        | tail _ q => exact hj (Or.inr q))
    obtain ⟨z1, z2⟩ := h7 l i p1 hi p2
    obtain ⟨x1, x2, -⟩ := hx i hi
    obtain ⟨m1, m2, -⟩ := hm i hi
    rw [if_neg (by omega)] at x1 x2 m1 m2
    have hback : upd (sS base fs Q (i :: l)) (Q i) 0 = sS base fs Q l := upd_back z2
    have hB' : BR N (upd xs (Q i) 0) (sS base fs Q l) := by
      rw [← hback]
      exact hB.put (Or.inl rfl)
    have hS : sdl fs (i :: l).length = sdl fs (l.length + 1) := rfl
    have hS2 : 3 - sdl fs (l.length + 1) = sdl fs l.length := by rw [← sdl_s]; grind
    obtain ⟨P', D', xs', xpf', xdf', mpf', mdf', r1, r2, r3⟩ := ih k' k2' (up + 1) (A i) _ _ (upd xs (Q i) 0) _ _ _ _ (by omega) (by omega) (by omega) (by omega) p2 (by omega) t1 t2 hx.num hm.num hB'
    refine ⟨P', D', xs', xpf', xdf', mpf', mdf', ?_, ?_, r3⟩
    · rw [q1, bd2_e, pm_X4_climb_L9, z_gt (show up < N * N by omega) (by omega), z_bd (show i < nn by omega) (by omega), z_cl (show i < 2 ^ 31 by omega), x2, if_neg (nI_m1 (show A i < 2 ^ 31 by omega)), if_neg (z_in (show i < nn by omega) (by omega)), x1, put_ok z1 (by omega), bd1_e, pm_X6_otherSide, bd1_e, hS, hS2, z_1]
      exact r1
    · rw [pm_X7_grow_L163, if_neg (nI_neg (show i < 2 ^ 31 by omega)), if_neg (show ¬ (1 : Int32) = 0 by decide), q2, bd2_e, if_neg (nI_nle p1 (show i < 2 ^ 31 by omega)), z_bd (show i < 8000 by omega) (by omega), z_cl (show i < 2 ^ 31 by omega), m1, z_bd (show Q i < 121 by omega) (by omega), z_cl (show Q i < 2 ^ 31 by omega), bd1_e, if_neg (z_in (show i < 8000 by omega) (by omega)), m2, show vp_nar .byte (0 : Int32) = 0 from by decide, hback, hS, hS2]
      exact r2
/-- the way up where nothing was added: the numbers stay -/
theorem upN_both {F N nc nn : Nat} {base : Nat → Int32} {fs : Int32} {Q A C K P D b : Nat → Nat} {xcel xah xch xmn mcel mah mpf mdf mch mmn : Nat → Int32} (hF : 9000 < F) (hN : N < 12) (hfs : fs = 1 ∨ fs = 2) (hnn : nc ≤ nn) (hnn2 : nn ≤ 8000) (h : TI N nc base fs Q A C K P D b) (hn : TN nc A C K P D b (fun _ => False)) (hm : RW nc mcel mah mpf mdf mch mmn Q A C K P D) :
    ∀ (l : List Nat) k k2 up i (xs xpf xdf : Nat → Int32), l.length < k → l.length + 1 < k2 → up + l.length ≤ N * N → i < nc → PT A l i → RW nc xcel xah xpf xdf xch xmn Q A C K P D → BR N xs (sS base fs Q l) →
    ∃ xs' xpf' xdf', pm_X4_climb_L9 F fs (N * N) nn xcel nn xah nn nn nn xch nn xmn k (nI i) (nI up) (sdl fs l.length) xs xpf xdf = some (fs, xs', xpf', xdf') ∧ pm_X7_grow_L163 F fs 121 8000 8000 8000 8000 8000 8000 0 mcel mah mch mmn k2 (nI i) (sdl fs l.length) (sS base fs Q l) mpf mdf = some (base, mpf, mdf) ∧ RW nc xcel xah xpf' xdf' xch xmn Q A C K P D ∧ BR N xs' base := by
  have hsq := sq_le hN
  have h' := h
  obtain ⟨h0, h1, h2, h3, h4, h5, h6, h7⟩ := h
  intro l
  induction l with
  | nil =>
    intro k k2 up i xs xpf xdf hk hk2 hup hi hp hx hB
    have e0 : i = 0 := hp
    subst e0
    have hk0 : 0 < k := hk
    obtain ⟨k', rfl⟩ : ∃ k', k = k' + 1 := ⟨k - 1, by omega⟩
    have hk20 : 0 + 1 < k2 := hk2
    obtain ⟨k2', rfl⟩ : ∃ k2', k2 = k2' + 1 + 1 := ⟨k2 - 2, by omega⟩
    have a1 := (hx 0 hi).2.1
    have a2 := (hm 0 hi).2.1
    rw [if_pos rfl] at a1 a2
    refine ⟨xs, xpf, xdf, ?_, ?_, hx, hB⟩
    · rw [pm_X4_climb_L9, z_bd (show 0 < nn by omega) (by omega), z_cl (show 0 < 2 ^ 31 by omega), a1, if_pos rfl]
      split <;> rfl
    · rw [pm_X7_grow_L163, if_neg (nI_neg (show 0 < 2 ^ 31 by omega)), if_pos (show (0 : Int32) = 0 from rfl), bd2_e, if_pos (show nI 0 ≤ 0 by rw [nI_0]; decide), bd1_e, z_bd (show 0 < 8000 by omega) (by omega), z_cl (show 0 < 2 ^ 31 by omega), a2, pm_X7_grow_L163, if_pos (show (-1 : Int32) < 0 by decide)]
      rfl
  | cons q l ih =>
    intro k k2 up i xs xpf xdf hk hk2 hup hi hp hx hB
    obtain ⟨e0, p1, p2⟩ := hp
    subst e0
    have hk' : l.length + 1 < k := hk
    have hup' : up + (l.length + 1) ≤ N * N := hup
    obtain ⟨k', rfl⟩ : ∃ k', k = k' + 1 := ⟨k - 1, by omega⟩
    have hk2' : l.length + 1 + 1 < k2 := hk2
    obtain ⟨k2', rfl⟩ : ∃ k2', k2 = k2' + 1 := ⟨k2 - 1, by omega⟩
    obtain ⟨g1, g2, g3⟩ := h1 i p1 hi
    have hKA : 0 < K (A i) := by omega
    have hAi : A i < nc := by omega
    obtain ⟨q1, -⟩ := reck_both hF hfs h' hn hx hm hnn hnn2 hAi p2 hKA (fun _ _ _ q => q)
    obtain ⟨s1, s2⟩ := (hn l (A i) hAi p2 (fun q => q)).2 hKA
    have eP : pr l.length P (C (A i)) (K (A i)) = P (A i) := by
      unfold pr
      by_cases hpa : l.length % 2 = 0
      · rw [if_pos hpa]; exact (s1 hpa).1.symm
      · rw [if_neg hpa]; exact (s2 hpa).2.symm
    have eD : dr l.length D (C (A i)) (K (A i)) = D (A i) := by
      unfold dr
      by_cases hpa : l.length % 2 = 0
      · rw [if_pos hpa]; exact (s1 hpa).2.symm
      · rw [if_neg hpa]; exact (s2 hpa).1.symm
    have hx' : RW nc xcel xah (upd xpf (A i) (nI (pr l.length P (C (A i)) (K (A i))))) (upd xdf (A i) (nI (dr l.length D (C (A i)) (K (A i))))) xch xmn Q A C K P D := by
      have := hx.num (i := A i) (p := pr l.length P (C (A i)) (K (A i))) (d := dr l.length D (C (A i)) (K (A i)))
      rw [un_id eP, un_id eD] at this
      exact this
    obtain ⟨z1, z2⟩ := h7 l i p1 hi p2
    obtain ⟨x1, x2, -⟩ := hx i hi
    obtain ⟨m1, m2, -⟩ := hm i hi
    rw [if_neg (by omega)] at x1 x2 m1 m2
    have hback : upd (sS base fs Q (i :: l)) (Q i) 0 = sS base fs Q l := upd_back z2
    have hB' : BR N (upd xs (Q i) 0) (sS base fs Q l) := by
      rw [← hback]
      exact hB.put (Or.inl rfl)
    have hS : sdl fs (i :: l).length = sdl fs (l.length + 1) := rfl
    have hS2 : 3 - sdl fs (l.length + 1) = sdl fs l.length := by rw [← sdl_s]; grind
    obtain ⟨xs', xpf', xdf', r1, r2, r3⟩ := ih k' k2' (up + 1) (A i) (upd xs (Q i) 0) _ _ (by omega) (by omega) (by omega) hAi p2 hx' hB'
    refine ⟨xs', xpf', xdf', ?_, ?_, r3⟩
    · rw [pm_X4_climb_L9, z_gt (show up < N * N by omega) (by omega), z_bd (show i < nn by omega) (by omega), z_cl (show i < 2 ^ 31 by omega), x2, if_neg (nI_m1 (show A i < 2 ^ 31 by omega)), if_neg (z_in (show i < nn by omega) (by omega)), x1, put_ok z1 (by omega), bd1_e, pm_X6_otherSide, bd1_e, hS, hS2, q1, bd2_e, z_1]
      exact r1
    · rw [pm_X7_grow_L163, if_neg (nI_neg (show i < 2 ^ 31 by omega)), if_pos (show (0 : Int32) = 0 from rfl), bd2_e, if_neg (nI_nle p1 (show i < 2 ^ 31 by omega)), z_bd (show i < 8000 by omega) (by omega), z_cl (show i < 2 ^ 31 by omega), m1, z_bd (show Q i < 121 by omega) (by omega), z_cl (show Q i < 2 ^ 31 by omega), bd1_e, if_neg (z_in (show i < 8000 by omega) (by omega)), m2, show vp_nar .byte (0 : Int32) = 0 from by decide, hback, hS, hS2]
      exact r2
