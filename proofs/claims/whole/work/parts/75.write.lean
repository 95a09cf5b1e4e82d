/-! PURE: writePlan and gather -/
theorem W126_eq {F n na nch nmn np : Nat} {ah ch mn pa : Nat → Int32} {x1 ct : Int32} : ∀ k (a b c d e : Int32), pm_X4_writePlan_L126_1 F n na ah nch ch nmn mn x1 ct np pa k a b c d e = pm_X4_writePlan_L126 F n na ah nch ch nmn mn x1 ct np pa k a b c d e := by
  intro k
  induction k with
  | zero => intros; rfl
  | succ k ih =>
    intro a b c d e
    rw [pm_X4_writePlan_L126_1, pm_X4_writePlan_L126]
    simp only [ih]
theorem W61_eq {F n nc na nz nch nmn : Nat} {ce ah zv ch mn : Nat → Int32} {x1 : Int32} : ∀ k (a b c d e : Int32) (n1 : Nat) (v1 : Nat → Int32) (n2 : Nat) (v2 : Nat → Int32) (g : Nat), pm_X4_writePlan_L61_1 F n nc ce na ah nz zv nch ch nmn mn x1 k a b c d e n1 v1 n2 v2 g = pm_X4_writePlan_L61 F n nc ce na ah nz zv nch ch nmn mn x1 k a b c d e n1 v1 n2 v2 g := by
  intro k
  induction k with
  | zero => intros; rfl
  | succ k ih =>
    intro a b c d e n1 v1 n2 v2 g
    rw [pm_X4_writePlan_L61_1, pm_X4_writePlan_L61]
    simp only [ih, W126_eq]
def fy (fs wn : Int32) (C K Z : Nat → Nat) (k x : Nat) : Int32 := if K x = 0 then -1 else if sdl fs k = wn then nI (amn Z (C x) (K x)) else nI (C x)
theorem first_ok {F N nc nn x : Nat} {base : Nat → Int32} {fs wn : Int32} {Q A C K P D Z b : Nat → Nat} {cel ah pf df ch mn zv : Nat → Int32} (k : Nat) (hF : 9000 < F) (h : TI N nc base fs Q A C K P D b) (hw : RW nc cel ah pf df ch mn Q A C K P D) (hnn : nc ≤ nn) (hnn2 : nn ≤ 8000) (hzv : ∀ i, i < nc → zv i = nI (Z i) ∧ Z i ≤ 1000000000) (hx : x < nc) : pm_X4_firstInPlan F nn ch nn mn nn zv (nI x) (og fs wn k) = some (fy fs wn C K Z k x) := by
  obtain ⟨w1, w2, w3, w4, w5, w6⟩ := hw x hx
  unfold og fy
  rw [pm_X4_firstInPlan]
  by_cases hk : K x = 0
  · rw [if_pos hk] at w5
    rw [hk] at w6
    rw [least_0 (by omega) (by omega) hnn2 w6, z_bd (show x < nn by omega) (by omega), z_cl (show x < 2 ^ 31 by omega), w5, bd1_e, if_pos hk]
    split <;> rfl
  · rw [if_neg hk] at w5
    obtain ⟨c1, c2, c3⟩ := h.2.2.1 x hx (by omega)
    rw [least_ok hF (by omega) hnn2 w5 w6 (by omega) (by omega) (fun j j1 j2 => hzv j (by omega)), z_bd (show x < nn by omega) (by omega), z_cl (show x < 2 ^ 31 by omega), w5, bd1_e, if_neg hk]
    by_cases e : sdl fs k = wn
    · rw [if_pos e, if_neg (show ¬ (1 : Int32) = 0 by decide), if_pos e]
    · rw [if_neg e, if_pos rfl, if_neg e]
theorem stop126 {F n nn ec pn k j : Nat} {ah ch mn pa : Nat → Int32} {ow a en up x1 : Int32} (hk : 0 < k) (hj : j < 8000) : pm_X4_writePlan_L126 F n nn ah nn ch nn mn x1 (nI ec) pn pa k ow a en (nI j) up = some (ow, en, nI j) := by
  obtain ⟨k', rfl⟩ : ∃ k', k = k' + 1 := ⟨k - 1, by omega⟩
  rw [pm_X4_writePlan_L126, if_neg (nI_m1 (show j < 2 ^ 31 by omega))]
  split <;> rfl
theorem plan_L {F N nc nn : Nat} {base : Nat → Int32} {fs wn : Int32} {Q A C K P D Z b : Nat → Nat} {xcel xah xpf xdf xch xmn mcel mah mpf mdf mch mmn zv : Nat → Int32} (hF : 9000 < F) (hN : N < 12) (hfs : fs = 1 ∨ fs = 2) (hwn : wn = 1 ∨ wn = 2) (hz : ZW fs wn P D Z) (h : TI N nc base fs Q A C K P D b) (hn : TN nc A C K P D b (fun _ => False)) (hx : RW nc xcel xah xpf xdf xch xmn Q A C K P D) (hm : RW nc mcel mah mpf mdf mch mmn Q A C K P D) (hnn : nc ≤ nn) (hnn2 : nn ≤ 8000) (hzv : ∀ i, i < nc → zv i = nI (Z i) ∧ Z i ≤ 1000000000) (hZ0 : Z 0 = 0) :
    ∀ k k2 x (l es : List Nat) (V : Nat → Prop) ec pn g (pa pe sa sc op be : Nat → Int32) w, 0 < x → x < nc → PT A l (A x) → (∀ a, a ∈ x :: l → Z a = 0) → VJ nc A V l x → cnt (fun j => cl (V j)) nc = ec → TR ec pn pa pe sa sc → 5 * 8000 ≤ g + 5 * pn → PP pa es (tv es) → (∀ e, e ∈ es → e < ec) → es.length = l.length → ST fs wn A C K op be (x :: l) es w → op w = nI x → be w = tv es → nc + 3 < ec + k → nc + 3 < ec + k2 →
    ∃ ec' pn' pa' pe' g' sa' sc' op' be', pm_X4_writePlan_L61 F (N * N) nn xcel nn xah nn zv nn xch nn xmn (nI 0) k (og fs wn l.length) (tv es) (nI x) (nI ec) (nI ec) pn pa pn pe g = some (nI ec', pn', pa', pn', pe', g') ∧ pm_X7_gather_L16 F wn fs 8000 mcel 8000 mah 8000 mpf 8000 mdf 8000 mch 8000 mmn 8000 8000 8200 8200 k2 (nI (w + 1)) (nI ec) sa sc op be = some (nI ec', sa', sc', op', be') ∧ TR ec' pn' pa' pe' sa' sc' ∧ pn ≤ pn' ∧ g + 5 * pn ≤ g' + 5 * pn' ∧ g' ≤ g := by
  have hsq := sq_le hN
  have h8 := h.1
  have hA : ∀ i, 0 < i → i < nc → A i < i := fun i a b => (h.2.1 i a b).1
  have e8 : (8000 : Int32) = nI 8000 := by decide
  intro k
  induction k with
  | zero =>
    intro k2 x l es V ec pn g pa pe sa sc op be w _ _ _ _ _ hc
    intros
    have := cnt_le (fun j => cl (V j)) nc
    omega
  | succ k ih =>
    intro k2 x l es V ec pn g pa pe sa sc op be w hx0 hxn hp hZ hV hc hT hg hE hlt hes hS hop hbe hk hk2
    have hpx : PT A (x :: l) x := ⟨rfl, hx0, hp⟩
    have hlen := len_S hfs h (x :: l) x hxn hpx
    have hlen' : l.length + 1 + cnt (em (sS base fs Q (x :: l))) (N * N) ≤ N * N := hlen
    have hw := ST_le h l es x w hxn hpx hS
    obtain ⟨a1, a2, a3⟩ := h.2.1 x hx0 hxn
    obtain ⟨b1, b2, b3⟩ := h.2.2.1 (A x) (by omega) (by omega)
    have hc2 : cnt (fun j => cl (V j ∨ j = x)) nc = ec + 1 := by
      rw [← hc]
      refine cnt_upd hxn (cl_f hV.1) (cl_t (Or.inr rfl)) (fun j _ hj => cl_e ⟨fun q => ?_, Or.inl⟩)
      rcases q with q | q
      · exact q
      · exact absurd q hj
    have hle := cnt_le (fun j => cl (V j ∨ j = x)) nc
    rw [hc2] at hle
    have hVQ := hV.visit hA hxn hpx
    have hpn2 := LL_le hT.2.2.1
    have x1 := (hx x hxn).1
    have m1 := (hm x hxn).1
    have m5 := (hm x hxn).2.2.2.2.1
    have m6 := (hm x hxn).2.2.2.2.2
    rw [if_neg (by omega)] at x1 m1
    have hZx : Z x = 0 := hZ x (List.mem_cons_self ..)
    obtain ⟨pn1, pa1, pe1, g1, q1, q2, q3, q4, q5, q6, q7, q8, q9, q10⟩ := add_ok (F := F) (g := g) (c := ec) (n := pn) (ah := pa) (ce := pe) (x := tv es) (y := nI (Q x)) (by omega) hT.2.1 hT.2.2.1 hg
    have hT1 : TR (ec + 1) pn1 pa1 pe1 (upd sa ec (tv es)) (upd sc ec (nI (Q x))) := hT.more (by omega) q2 q4 q5 q6 q7 q8 (by
      cases es with
      | nil => exact Or.inl rfl
      | cons e es => exact Or.inr ⟨e, hlt e (List.mem_cons_self ..), rfl⟩)
    have hE1 : PP pa1 (ec :: es) (nI ec) := by
      refine ⟨rfl, by omega, ?_⟩
      rw [q6]
      exact PP_congr q5 hlt hE
    have hlt1 : ∀ e, e ∈ ec :: es → e < ec + 1 := by
      intro e he
      cases he with
      | head => omega
      | tail _ he => have := hlt e he; omega
    have hZ1 : ∀ a, a ∈ x :: l → Z a = 0 := hZ
    have wle : w < 8200 := by omega
    rw [pm_X4_writePlan_L61, e8, z_gt (show ec < 8000 by omega) (by omega), if_neg (nI_m1 (show x < 2 ^ 31 by omega)), z_bd (show x < nn by omega) (by omega), z_cl (show x < 2 ^ 31 by omega), x1, q1, bd7_e, og_s hfs hwn, bd1_e, first_ok (Z := Z) (wn := wn) (l.length + 1) hF h hx hnn hnn2 hzv hxn, bd1_e, z_1]
    obtain ⟨k2', rfl⟩ : ∃ k2', k2 = k2' + 1 := ⟨k2 - 1, by omega⟩
    rw [pm_X7_gather_L16, if_neg (nI_nle (Nat.succ_pos w) (by omega)), pk_m1, z_bd wle (by omega), z_bd wle (by omega), z_cl (show w < 2 ^ 31 by omega), hop, hbe, if_neg (nI_nle hx0 (by omega)), z_bd (show ec < 8000 by omega) (by omega), z_bd (show x < 8000 by omega) (by omega), z_bd (show ec < 8000 by omega) (by omega), z_cl (show x < 2 ^ 31 by omega), z_cl (show ec < 2 ^ 31 by omega), m1, bd4_e, end_ok hz h hm hxn hZx, z_1]
    by_cases hK : K x = 0
    · have hfy : fy fs wn C K Z (l.length + 1) x = -1 := if_pos hK
      rw [hfy, if_pos hK, bd1_e, if_neg (show ¬ (1 : Int32) = 0 by decide)]
      obtain ⟨ow, en, nx, f1, f2⟩ := planUp (F := F) (ec := ec + 1) (pn := pn1) (pa := pa1) hN hfs hwn hz h hn hx hnn hnn2 (by omega) q4 (LL_le q2).2 hZ0 l F 0 x ec es w (by omega) (by omega) hxn hpx hZ hE1 hlt1 hes hS
      rw [show nI 0 = (0 : Int32) from nI_0] at f1
      rw [show nI 0 = (0 : Int32) from nI_0, f1, bd3_e]
      rcases f2 with ⟨rfl, rfl⟩ | ⟨q', l', es', pre, w', rfl, c2, rfl, rfl, c5, c6, c7, c8, rfl, c10, c11, c12, c13, c14, c15, c16⟩
      · obtain ⟨k', rfl⟩ : ∃ k', k = k' + 1 := ⟨k - 1, by omega⟩
        obtain ⟨k3, rfl⟩ : ∃ k3, k2' = k3 + 1 := ⟨k2' - 1, by omega⟩
        refine ⟨ec + 1, pn1, pa1, pe1, g1, _, _, op, be, ?_, ?_, hT1, q3, q9, q10⟩
        · rw [pm_X4_writePlan_L61, if_pos (show (-1 : Int32) = -1 from rfl)]
          split <;> rfl
        · rw [pm_X7_gather_L16, if_pos (show nI 0 ≤ 0 by rw [nI_0]; decide)]
      · rw [show (0 : Int32) = nI 0 from nI_0.symm]
        obtain ⟨ec', pn', pa', pe', g', sa', sc', op', be', r1, r2, r3, r4, r5, r6⟩ := ih k2' (q' + 1) l' es' (fun j => V j ∨ j = x) (ec + 1) pn1 g1 pa1 pe1 _ _ op be w' (by omega) c13 (by rw [c14]; exact c8) (by
          intro a ha
          cases ha with
          | head => exact c15
          | tail _ ha => exact c16 a ha) (hVQ.next c13 (by omega) c14 c2) hc2 hT1 (by omega) c6 c7 c5 c12 c10 c11 (by omega) (by omega)
        exact ⟨ec', pn', pa', pe', g', sa', sc', op', be', r1, r2, r3, by omega, by omega, by omega⟩
    · have hK0 : 0 < K x := by omega
      obtain ⟨c1, c2, c3⟩ := h.2.2.1 x hxn hK0
      have hbl := block h hxn hx0 hK0
      rw [if_neg hK] at m5
      have hFl : (x :: l).length < F := by show l.length + 1 < F; omega
      rw [if_neg hK, bd1_e, if_pos rfl, if_neg (z_in (show x < 8000 by omega) (by omega)), isOwn_ok (wn := wn) h8.2 hA hm hxn hpx hFl, bd1_e, show (x :: l).length = l.length + 1 from rfl]
      obtain ⟨km1, km2, -⟩ := kids h hn hm hxn hpx hK0 (fun _ _ _ q => q)
      by_cases ho : sdl fs (l.length + 1) = wn
      · obtain ⟨y1, y2⟩ := amn_in (X := Z) (c := C x) (K x) hK0
        have hy0 := own_min hfs hz hn hxn hpx hK0 hZx ho
        have hfy : fy fs wn C K Z (l.length + 1) x = nI (amn Z (C x) (K x)) := by
          unfold fy
          rw [if_neg hK, if_pos ho]
        have hog : og fs wn (l.length + 1) = 1 := if_pos ho
        have hyA := c3 (amn Z (C x) (K x)) y1 y2
        have hsure := sure_L (F := F) hfs hz (show C x + K x ≤ 8000 by omega) km1 km2 y2 hy0 (fun t t1 t2 q => by
          have := amn_fst (X := Z) (c := C x) (K x) (t - C x) (by omega)
          rw [show C x + (t - C x) = t by omega] at this
          omega) F (C x) (Nat.le_refl _) y1 (by omega)
        rw [hfy, stop126 (by omega) (by omega), bd3_e, m5, if_neg (show ¬ og fs wn (l.length + 1) = 0 by rw [hog]; decide), hsure, bd1_e, z_1]
        obtain ⟨ec', pn', pa', pe', g', sa', sc', op', be', r1, r2, r3, r4, r5, r6⟩ := ih k2' (amn Z (C x) (K x)) (x :: l) (ec :: es) (fun j => V j ∨ j = x) (ec + 1) pn1 g1 pa1 pe1 (upd sa ec (tv es)) (upd sc ec (nI (Q x))) (upd op w (nI (amn Z (C x) (K x)))) (upd be w (nI ec)) w (by omega) (by omega) (by rw [hyA]; exact hpx) (by
          intro a ha
          cases ha with
          | head => exact hy0
          | tail _ ha => exact hZ a ha) (hVQ.heir hA hx0 (by omega) (by omega) hyA hV.1 hV.2.1) hc2 hT1 (by omega) hE1 hlt1 (by show es.length + 1 = l.length + 1; omega) ⟨w, hS.congr (fun i hi => ⟨u_n (by omega), u_n (by omega)⟩), by
            have : sbs fs wn A C K (x :: l) (amn Z (C x) (K x)) = 0 := if_pos ho
            omega, fun j hj => by
            have : sbs fs wn A C K (x :: l) (amn Z (C x) (K x)) = 0 := if_pos ho
            omega⟩ u_s u_s (by omega) (by omega)
        exact ⟨ec', pn', pa', pe', g', sa', sc', op', be', r1, r2, r3, by omega, by omega, by omega⟩
      · have hfy : fy fs wn C K Z (l.length + 1) x = nI (C x) := by
          unfold fy
          rw [if_neg hK, if_neg ho]
        have hog : og fs wn (l.length + 1) = 0 := if_neg ho
        have hCA := c3 (C x) (Nat.le_refl _) (by omega)
        have hall := all_zero hfs hz hn hxn hpx hK0 hZx ho
        obtain ⟨op1, be1, u1, u2, u3⟩ := push_L (F := F) (c := C x) (m := K x) (w := w) (ch := mch) (v := op) (b := nI ec) (x1 := nI (w + 1)) (by omega) (by omega) (by omega) (by rw [pk_m1, z_cl (show w < 2 ^ 31 by omega), hop, z_cl (show x < 2 ^ 31 by omega), m5]) F 0 op be (by omega) (by omega) (fun j hj => by omega)
        have hsub : nI (C x + K x) - 1 = nI (C x + K x - 1 - 0) := by
          rw [show (1 : Int32) = nI 1 from by decide, pk_sub (by omega), Nat.sub_zero]
        rw [show w + 0 = w from rfl, ← hsub] at u1
        rw [hfy, stop126 (by omega) (by omega), bd3_e, m5, m6, if_pos hog, if_neg (z_in (show x < 8000 by omega) (by omega)), nI_add, u1, bd3_e, show w + K x = (w + K x - 1) + 1 by omega]
        have hsb : sbs fs wn A C K (x :: l) (C x) = K x - 1 := by
          have : sbs fs wn A C K (x :: l) (C x) = C (A (C x)) + K (A (C x)) - 1 - C x := if_neg ho
          rw [this, hCA]
          omega
        obtain ⟨ec', pn', pa', pe', g', sa', sc', op', be', r1, r2, r3, r4, r5, r6⟩ := ih k2' (C x) (x :: l) (ec :: es) (fun j => V j ∨ j = x) (ec + 1) pn1 g1 pa1 pe1 (upd sa ec (tv es)) (upd sc ec (nI (Q x))) op1 be1 (w + K x - 1) (by omega) (by omega) (by rw [hCA]; exact hpx) (by
          intro a ha
          cases ha with
          | head => exact hall (C x) (Nat.le_refl _) (by omega)
          | tail _ ha => exact hZ a ha) (hVQ.heir hA hx0 (by omega) (by omega) hCA hV.1 hV.2.1) hc2 hT1 (by omega) hE1 hlt1 (by show es.length + 1 = l.length + 1; omega) ⟨w, hS.congr u3, by omega, fun j hj => by
            rw [hCA]
            exact u2 j (by omega)⟩ (by
            have := (u2 (K x - 1) (by omega)).1
            rw [show w + (K x - 1) = w + K x - 1 by omega, show C x + K x - 1 - (K x - 1) = C x by omega] at this
            exact this) (by
            have := (u2 (K x - 1) (by omega)).2
            rw [show w + (K x - 1) = w + K x - 1 by omega] at this
            exact this) (by omega) (by omega)
        exact ⟨ec', pn', pa', pe', g', sa', sc', op', be', r1, r2, r3, by omega, by omega, by omega⟩
